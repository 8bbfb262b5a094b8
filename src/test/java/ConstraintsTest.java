/** Promises 3 (constrain), 4 (remove), 5 (suggest), 6 (resize), 7 (place) and 8 (error). */
public final class ConstraintsTest {
    private static final Check CHECK = new Check();

    public static void main(String[] args) {
        constrainForms();
        constrainStrengths();
        constrainByNumber();
        constrainRefused();
        constrainTooMany();
        constrainRefusalsInTheirOrder();
        constrainConflict();
        edgesStayByNumber();
        remove();
        removeRefused();
        removeKeepsTheOtherNumbers();
        suggest();
        suggestCountsOnce();
        suggestIsForgottenByEachSolving();
        suggestAtItsBounds();
        suggestRefused();
        resize();
        resizeRefused();
        resizeConflict();
        resizeLasts();
        resizeAtItsBounds();
        resizeConflictOfOneSide();
        place();
        error();
        errorOfATakenNumber();
        CHECK.end();
    }

    private static DamageView withBoxes(int width, int height, int boxes) {
        DamageView view = new DamageView(width, height);
        for (int box = 1; box <= boxes; box++) {
            view.box(0, 0);
        }
        return view;
    }

    private static void constrainForms() {
        CHECK.part("promise 3, forms");
        DamageView view = withBoxes(20, 12, 1);
        CHECK.due("right = left + 5", view.constrain(5, 4, 5, 0, 0), 0);
        CHECK.places(view, 1, 0, 5, 0, 0);
        CHECK.due("left >= 3", view.constrain(4, 0, 3, 1, 0), 1);
        CHECK.places(view, 1, 3, 8, 0, 0);
        CHECK.due("left >= 2, met already", view.constrain(4, 0, 2, 1, 0), 2);
        CHECK.places(view, 1, 3, 8, 0, 0);
        CHECK.due("bottom = window's bottom - 99", view.constrain(7, 3, -99, 0, 0), 3);
        CHECK.places(view, 1, 3, 8, -87, -87);
        CHECK.due("top = window's top + 99, weak", view.constrain(6, 2, 99, 0, 3), 4);
        CHECK.places(view, 1, 3, 8, -87, -87);
    }

    private static void constrainStrengths() {
        CHECK.part("promise 3, strengths");
        DamageView view = withBoxes(20, 12, 1);
        view.constrain(4, 0, 9, 0, 3);
        CHECK.places(view, 1, 9, 9, 0, 0);
        view.constrain(4, 0, 6, 0, 2);
        CHECK.places(view, 1, 6, 9, 0, 0);
        view.constrain(4, 0, 4, 0, 1);
        CHECK.places(view, 1, 4, 9, 0, 0);
        view.constrain(4, 0, 3, 0, 0);
        CHECK.places(view, 1, 3, 9, 0, 0);
        CHECK.due("error of the weak one", view.error(0), 6);
        CHECK.due("error of the medium one", view.error(1), 3);
        CHECK.due("error of the strong one", view.error(2), 1);
        CHECK.due("error of the required one", view.error(3), 0);
    }

    private static void constrainByNumber() {
        CHECK.part("promise 3, by number");
        DamageView view = withBoxes(20, 12, 1);
        CHECK.due("first", view.constrain(4, 0, 5, 0, 2), 0);
        CHECK.due("second", view.constrain(4, 0, 7, 0, 2), 1);
        CHECK.due("place(4)", view.place(4), 5);
        view.remove(0);
        CHECK.due("place(4)", view.place(4), 7);
        CHECK.due("lowest free number", view.constrain(4, 0, 9, 0, 2), 0);
        CHECK.due("place(4): 0 goes before 1", view.place(4), 9);
        CHECK.due("one of form 1", view.constrain(0, 4, -4, 1, 1), 2);
        CHECK.due("place(4): strong before medium", view.place(4), 4);
    }

    private static void constrainRefused() {
        CHECK.part("promise 3, refused");
        DamageView view = withBoxes(20, 12, 1);
        view.suggest(5, 3);
        view.paint();
        int[][] wrong = {
            {8, 4, 0, 0, 1}, {4, 8, 0, 0, 1}, {-1, 4, 0, 0, 1}, {4, -1, 0, 0, 1},
            {Integer.MIN_VALUE, 4, 0, 0, 1}, {4, Integer.MAX_VALUE, 0, 0, 1},
            {4, 4, 0, 0, 1}, {4, 6, 0, 0, 1}, {5, 7, 0, 0, 1}, {3, 1, 0, 0, 1},
            {4, 0, -100, 0, 1}, {4, 0, 100, 0, 1}, {4, 0, Integer.MIN_VALUE, 0, 1},
            {4, 0, 5, -1, 1}, {4, 0, 5, 2, 1}, {4, 0, 5, 0, -1}, {4, 0, 5, 0, 4},
        };
        for (int[] call : wrong) {
            String text = "constrain" + java.util.Arrays.toString(call);
            CHECK.due(text, view.constrain(call[0], call[1], call[2], call[3], call[4]), -1);
        }
        CHECK.places(view, 1, 0, 3, 0, 0);
        CHECK.due("error(0)", view.error(0), -1);
        CHECK.due("damage()", view.damage(), 0);
        CHECK.due("c = 99", view.constrain(4, 0, 99, 0, 1), 0);
        CHECK.due("c = -99", view.constrain(6, 2, -99, 1, 3), 1);
    }

    private static void constrainTooMany() {
        CHECK.part("promise 3, sixteen");
        DamageView view = withBoxes(20, 12, 1);
        for (int number = 0; number < 16; number++) {
            CHECK.due("constrain", view.constrain(4, 0, number, 1, 3), number);
        }
        CHECK.due("a wrong one is -1 first", view.constrain(4, 4, 0, 0, 0), -1);
        CHECK.due("the seventeenth", view.constrain(4, 0, 0, 1, 3), -2);
        CHECK.due("-2 goes before -3", view.constrain(4, 5, 1, 1, 0), -2);
        CHECK.due("place(4)", view.place(4), 15);
        CHECK.due("remove(7)", view.remove(7), true);
        CHECK.due("a conflict then", view.constrain(4, 5, 1, 1, 0), -3);
        CHECK.due("the free number", view.constrain(4, 0, 20, 1, 3), 7);
        CHECK.due("place(4)", view.place(4), 20);
    }

    private static void constrainConflict() {
        CHECK.part("promise 3, conflict");
        DamageView view = withBoxes(20, 12, 2);
        CHECK.due("left > right", view.constrain(4, 5, 1, 1, 0), -3);
        CHECK.due("top > bottom", view.constrain(6, 7, 1, 1, 0), -3);
        CHECK.due("another width", view.constrain(1, 0, 19, 0, 0), -3);
        CHECK.due("another height", view.constrain(3, 2, 13, 1, 0), -3);
        CHECK.due("the same width", view.constrain(1, 0, 20, 0, 0), 0);
        view.constrain(8, 5, 10, 1, 0);
        view.constrain(4, 0, 5, 1, 0);
        CHECK.due("too long a chain", view.constrain(1, 9, 6, 1, 0), -3);
        CHECK.due("error(3)", view.error(3), -1);
        CHECK.places(view, 2, 15, 15, 0, 0);
        CHECK.due("as long as can be", view.constrain(1, 9, 5, 1, 0), 3);
        CHECK.due("a strong one is no conflict", view.constrain(4, 5, 1, 1, 1), 4);
        CHECK.due("error(4)", view.error(4), 1);
    }

    private static void edgesStayByNumber() {
        CHECK.part("promise 3, edges by number");
        DamageView view = withBoxes(20, 12, 2);
        Check.spread(view, 1, 2, 4, 0, 0);
        Check.spread(view, 2, 8, 9, 0, 0);
        view.constrain(9, 4, 10, 0, 0);
        CHECK.places(view, 1, 2, 4, 0, 0);
        CHECK.places(view, 2, 8, 12, 0, 0);
        view.constrain(4, 8, 0, 0, 0);
        CHECK.places(view, 1, 2, 4, 0, 0);
        CHECK.places(view, 2, 2, 12, 0, 0);
    }

    private static void remove() {
        CHECK.part("promise 4");
        DamageView view = withBoxes(20, 12, 1);
        view.constrain(5, 4, 6, 0, 1);
        view.constrain(5, 4, 2, 0, 0);
        view.constrain(7, 6, 3, 0, 0);
        CHECK.places(view, 1, 0, 2, 0, 3);
        view.paint();
        CHECK.due("remove(1)", view.remove(1), true);
        CHECK.places(view, 1, 0, 6, 0, 3);
        CHECK.due("damage()", view.damage(), 18);
        CHECK.due("error(1)", view.error(1), -1);
        CHECK.due("error(2)", view.error(2), 0);
        CHECK.due("remove(1) again", view.remove(1), false);
        CHECK.due("remove(0)", view.remove(0), true);
        CHECK.places(view, 1, 0, 6, 0, 3);
    }

    private static void removeRefused() {
        CHECK.part("promise 4, refused");
        DamageView view = withBoxes(20, 12, 1);
        view.constrain(5, 4, 6, 0, 1);
        view.suggest(5, 9);
        view.suggest(4, 1);
        CHECK.due("remove(1)", view.remove(1), false);
        CHECK.due("remove(-1)", view.remove(-1), false);
        CHECK.due("remove(16)", view.remove(16), false);
        CHECK.due("remove(MAX)", view.remove(Integer.MAX_VALUE), false);
        CHECK.due("remove(MIN)", view.remove(Integer.MIN_VALUE), false);
        CHECK.due("error(0)", view.error(0), 0);
    }

    private static void suggest() {
        CHECK.part("promise 5");
        DamageView view = withBoxes(20, 12, 1);
        CHECK.due("suggest(5, 99)", view.suggest(5, 99), true);
        CHECK.places(view, 1, 0, 99, 0, 0);
        CHECK.due("suggest(5, -99)", view.suggest(5, -99), true);
        CHECK.places(view, 1, -99, -99, 0, 0);
        CHECK.due("suggest(6, 7)", view.suggest(6, 7), true);
        CHECK.places(view, 1, -99, -99, 7, 7);
        view.constrain(4, 0, 0, 1, 0);
        view.constrain(1, 5, 0, 1, 0);
        CHECK.due("suggest(4, 30)", view.suggest(4, 30), true);
        CHECK.places(view, 1, 20, 20, 7, 7);
        CHECK.due("suggest(5, -3)", view.suggest(5, -3), true);
        CHECK.places(view, 1, 0, 0, 7, 7);
        CHECK.due("suggest(1, 5), of the window", view.suggest(1, 5), true);
        CHECK.due("suggest(0, 5), of the window", view.suggest(0, 5), true);
        CHECK.due("suggest(2, 5), of the window", view.suggest(2, 5), true);
        CHECK.places(view, 0, 0, 20, 0, 12);
    }

    private static void suggestCountsOnce() {
        CHECK.part("promise 5, once");
        DamageView view = withBoxes(20, 12, 1);
        view.constrain(5, 4, 6, 0, 1);
        view.constrain(4, 0, 2, 0, 2);
        CHECK.places(view, 1, 2, 8, 0, 0);
        view.suggest(4, 5);
        CHECK.places(view, 1, 5, 11, 0, 0);
        CHECK.due("error(1)", view.error(1), 3);
        view.suggest(5, 3);
        CHECK.places(view, 1, -3, 3, 0, 0);
        view.suggest(7, 4);
        CHECK.places(view, 1, 2, 8, 0, 4);
    }

    private static void suggestRefused() {
        CHECK.part("promise 5, refused");
        DamageView view = withBoxes(20, 12, 1);
        view.constrain(4, 0, 2, 0, 1);
        view.suggest(4, 5);
        view.paint();
        CHECK.due("suggest(8, 0)", view.suggest(8, 0), false);
        CHECK.due("suggest(-1, 0)", view.suggest(-1, 0), false);
        CHECK.due("suggest(MAX, 0)", view.suggest(Integer.MAX_VALUE, 0), false);
        CHECK.due("suggest(4, 100)", view.suggest(4, 100), false);
        CHECK.due("suggest(4, -100)", view.suggest(4, -100), false);
        CHECK.due("suggest(4, MIN)", view.suggest(4, Integer.MIN_VALUE), false);
        CHECK.due("place(4): not solved again", view.place(4), 5);
    }

    private static void resize() {
        CHECK.part("promise 6");
        DamageView view = withBoxes(20, 12, 1);
        view.constrain(5, 1, -2, 0, 1);
        view.constrain(7, 3, 0, 0, 2);
        view.paint();
        CHECK.due("resize(10, 14)", view.resize(10, 14), true);
        CHECK.places(view, 0, 0, 10, 0, 14);
        CHECK.places(view, 1, 0, 8, 0, 14);
        CHECK.due("damage()", view.damage(), 260);
        CHECK.due("resize(1, 1)", view.resize(1, 1), true);
        CHECK.places(view, 1, -1, -1, 0, 1);
        CHECK.due("resize(24, 16)", view.resize(24, 16), true);
        CHECK.places(view, 1, -1, 22, 0, 16);
        view.suggest(4, 5);
        view.suggest(5, 9);
        CHECK.due("place(5)", view.place(5), 9);
        CHECK.due("resize(24, 16), the same size", view.resize(24, 16), true);
        CHECK.due("place(5): solved again", view.place(5), 22);
    }

    private static void resizeRefused() {
        CHECK.part("promise 6, refused");
        DamageView view = withBoxes(20, 12, 1);
        view.paint();
        int[][] wrong = {
            {0, 12}, {25, 12}, {20, 0}, {20, 17}, {-5, -5},
            {Integer.MAX_VALUE, 12}, {20, Integer.MIN_VALUE},
        };
        for (int[] size : wrong) {
            CHECK.due("resize" + java.util.Arrays.toString(size), view.resize(size[0], size[1]), false);
        }
        CHECK.places(view, 0, 0, 20, 0, 12);
        CHECK.due("damage()", view.damage(), 0);
    }

    private static void resizeConflict() {
        CHECK.part("promise 6, conflict");
        DamageView view = withBoxes(20, 12, 1);
        view.constrain(4, 0, 4, 1, 0);
        view.constrain(1, 5, 4, 1, 0);
        view.constrain(5, 4, 3, 1, 0);
        view.paint();
        CHECK.due("resize(10, 5)", view.resize(10, 5), false);
        CHECK.places(view, 0, 0, 20, 0, 12);
        CHECK.places(view, 1, 4, 7, 0, 0);
        CHECK.due("damage()", view.damage(), 0);
        view.suggest(7, 3);
        CHECK.places(view, 0, 0, 20, 0, 12);
        CHECK.due("resize(11, 5)", view.resize(11, 5), true);
        CHECK.places(view, 0, 0, 11, 0, 5);
        CHECK.places(view, 1, 4, 7, 0, 3);
    }

    private static void place() {
        CHECK.part("promise 7");
        DamageView view = withBoxes(20, 12, 1);
        Check.spread(view, 1, -7, 13, 2, 99);
        CHECK.places(view, 1, -7, 13, 2, 99);
        CHECK.due("place(8)", view.place(8), 0);
        CHECK.due("place(-1)", view.place(-1), 0);
        CHECK.due("place(24)", view.place(24), 0);
        CHECK.due("place(MAX)", view.place(Integer.MAX_VALUE), 0);
        CHECK.due("place(MIN)", view.place(Integer.MIN_VALUE), 0);
    }

    private static void error() {
        CHECK.part("promise 8");
        DamageView view = withBoxes(20, 12, 1);
        view.constrain(4, 0, 5, 0, 1);
        view.constrain(4, 0, 5, 1, 1);
        CHECK.due("error(0)", view.error(0), 0);
        CHECK.due("error(1)", view.error(1), 0);
        view.suggest(4, 8);
        CHECK.due("error(0), 3 more", view.error(0), 3);
        CHECK.due("error(1), 3 more", view.error(1), 0);
        view.suggest(4, 1);
        CHECK.due("error(0), 4 less", view.error(0), 4);
        CHECK.due("error(1), 4 less", view.error(1), 4);
        CHECK.due("error(2)", view.error(2), -1);
        CHECK.due("error(-1)", view.error(-1), -1);
        CHECK.due("error(16)", view.error(16), -1);
        CHECK.due("error(MAX)", view.error(Integer.MAX_VALUE), -1);
        CHECK.due("error(MIN)", view.error(Integer.MIN_VALUE), -1);
    }

    private static void constrainRefusalsInTheirOrder() {
        CHECK.part("promise 3, \"then -2\", \"then -3\"");
        DamageView view = withBoxes(20, 12, 1);
        CHECK.due("wrong, and a conflict", view.constrain(4, 5, 100, 1, 0), -1);
        CHECK.due("a conflict", view.constrain(4, 5, 99, 1, 0), -3);
        for (int number = 0; number < 15; number++) {
            view.constrain(6, 2, 0, 1, 3);
        }
        CHECK.due("a conflict with fifteen", view.constrain(4, 5, 99, 1, 0), -3);
        CHECK.due("the sixteenth", view.constrain(6, 2, 0, 1, 3), 15);
        CHECK.due("wrong, too many and a conflict", view.constrain(4, 5, 100, 1, 0), -1);
        CHECK.due("too many and a conflict", view.constrain(4, 5, 99, 1, 0), -2);
        CHECK.due("wrong and too many", view.constrain(6, 2, 0, 1, 4), -1);
        CHECK.due("too many", view.constrain(6, 2, 0, 1, 3), -2);
    }

    private static void removeKeepsTheOtherNumbers() {
        CHECK.part("promise 4, numbers");
        DamageView view = withBoxes(20, 12, 1);
        for (int number = 0; number < 16; number++) {
            view.constrain(4, 0, number, 0, 3);
        }
        CHECK.due("remove(0)", view.remove(0), true);
        CHECK.due("place(4), solved again", view.place(4), 1);
        CHECK.due("remove(15)", view.remove(15), true);
        CHECK.due("remove(15) again", view.remove(15), false);
        CHECK.due("error(14)", view.error(14), 13);
        CHECK.due("error(15)", view.error(15), -1);
        for (int number = 1; number < 15; number++) {
            CHECK.due("place(4)", view.place(4), number);
            CHECK.due("remove(" + number + ")", view.remove(number), true);
        }
        CHECK.due("place(4), where it was", view.place(4), 14);
        CHECK.due("remove(0), none is left", view.remove(0), false);
        CHECK.due("the next number", view.constrain(4, 0, 3, 0, 3), 0);
    }

    private static void suggestIsForgottenByEachSolving() {
        CHECK.part("promise 5, \"that counts for this once\"");
        for (int way = 0; way < 5; way++) {
            DamageView view = withBoxes(20, 12, 1);
            view.constrain(4, 0, 2, 0, 3);
            view.constrain(6, 2, 1, 1, 3);
            view.suggest(4, 5);
            CHECK.due("place(4)", view.place(4), 5);
            view.hide(1, true);
            view.paint();
            CHECK.due("place(4), no solving since", view.place(4), 5);
            switch (way) {
                case 0 -> view.constrain(7, 6, 0, 1, 3);
                case 1 -> view.remove(1);
                case 2 -> view.suggest(6, 4);
                case 3 -> view.resize(20, 12);
                default -> view.suggest(1, 5);
            }
            CHECK.due("place(4), way " + way, view.place(4), 2);
        }
    }

    private static void suggestAtItsBounds() {
        CHECK.part("promise 5, \"-99 .. 99\" and the last edge");
        DamageView view = withBoxes(20, 12, 2);
        int[] places = {-99, -98, 98, 99};
        for (int place : places) {
            CHECK.due("suggest(8, " + place + ")", view.suggest(8, place), true);
            CHECK.due("place(8)", view.place(8), place);
        }
        CHECK.due("suggest(8, 100)", view.suggest(8, 100), false);
        CHECK.due("suggest(8, -100)", view.suggest(8, -100), false);
        CHECK.due("place(8)", view.place(8), 99);
        CHECK.due("suggest(11, 4)", view.suggest(11, 4), true);
        CHECK.due("suggest(12, 4)", view.suggest(12, 4), false);
        view.box(0, 0);
        CHECK.due("suggest(12, 4) with one box more", view.suggest(12, 4), true);
        CHECK.due("suggest(-1, 4)", view.suggest(-1, 4), false);
    }

    private static void resizeLasts() {
        CHECK.part("promise 6, for all later solving");
        DamageView view = withBoxes(20, 12, 1);
        view.resize(9, 16);
        view.suggest(4, 3);
        CHECK.places(view, 0, 0, 9, 0, 16);
        view.constrain(5, 1, 0, 0, 0);
        CHECK.places(view, 0, 0, 9, 0, 16);
        CHECK.places(view, 1, 3, 9, 0, 0);
        CHECK.due("resize(0, 5)", view.resize(0, 5), false);
        view.remove(0);
        CHECK.places(view, 0, 0, 9, 0, 16);
        CHECK.due("width 9 is required", view.constrain(1, 0, 9, 0, 0), 0);
        CHECK.due("resize(10, 16)", view.resize(10, 16), false);
        CHECK.due("resize(9, 1)", view.resize(9, 1), true);
        CHECK.places(view, 0, 0, 9, 0, 1);
    }

    private static void resizeAtItsBounds() {
        CHECK.part("promise 6, \"1 .. 24\" and \"1 .. 16\"");
        DamageView view = withBoxes(20, 12, 0);
        int[][] sizes = {{1, 16}, {24, 1}, {1, 1}, {24, 16}, {2, 15}, {23, 2}};
        for (int[] size : sizes) {
            CHECK.due("resize" + java.util.Arrays.toString(size), view.resize(size[0], size[1]), true);
            CHECK.places(view, 0, 0, size[0], 0, size[1]);
            CHECK.due("hit at the last point", view.hit(size[0] - 1, size[1] - 1), 0);
            CHECK.due("hit right of it", view.hit(size[0], 0), -1);
            CHECK.due("hit below it", view.hit(0, size[1]), -1);
        }
    }

    private static void resizeConflictOfOneSide() {
        CHECK.part("promise 6, a conflict of one side");
        DamageView view = withBoxes(20, 12, 1);
        view.constrain(3, 7, 2, 1, 0);
        view.constrain(6, 2, 4, 1, 0);
        view.paint();
        CHECK.due("resize(10, 5)", view.resize(10, 5), false);
        CHECK.places(view, 0, 0, 20, 0, 12);
        view.suggest(4, 3);
        CHECK.places(view, 0, 0, 20, 0, 12);
        CHECK.due("damage()", view.damage(), 0);
        CHECK.due("resize(10, 6)", view.resize(10, 6), true);
        CHECK.places(view, 1, 3, 3, 4, 4);
        view.remove(1);
        CHECK.due("resize(10, 5), one constraint gone", view.resize(10, 5), true);
        CHECK.places(view, 1, 3, 3, 3, 3);
    }

    private static void errorOfATakenNumber() {
        CHECK.part("promise 8, \"-1 if there is none\"");
        DamageView view = withBoxes(20, 12, 1);
        CHECK.due("error(0)", view.error(0), -1);
        view.constrain(4, 5, 1, 1, 0);
        CHECK.due("error(0), the one refused", view.error(0), -1);
        view.constrain(4, 0, 5, 0, 0);
        view.constrain(1, 4, 99, 1, 3);
        CHECK.due("error(0), required", view.error(0), 0);
        CHECK.due("error(1), 20 - 5 is less than 99", view.error(1), 84);
        view.remove(0);
        CHECK.due("error(0), taken away", view.error(0), -1);
        CHECK.due("error(1), solved again", view.error(1), 0);
        CHECK.due("place(4)", view.place(4), -79);
        view.constrain(0, 4, 78, 0, 1);
        CHECK.due("error(0), of the new one", view.error(0), 0);
        CHECK.due("error(1)", view.error(1), 1);
    }
}

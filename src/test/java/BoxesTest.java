/** Promises 1 (a new object), 2 (box), 9 (hide), 10 (raise) and 11 (hit). */
public final class BoxesTest {
    private static final Check CHECK = new Check();

    public static void main(String[] args) {
        newObject();
        newObjectOfNearestSize();
        newObjectOfOneNearestSide();
        box();
        boxRefused();
        boxIsLastInOrder();
        boxIsNotHidden();
        boxWhileOthersAreHeld();
        hide();
        hideParent();
        hideRefused();
        raise();
        raiseWithChildren();
        raiseDamagesItsAreaAlone();
        raiseUntilItIsTheLast();
        raiseRefused();
        hit();
        hitSixDeep();
        hitOutside();
        hitOfEachPoint();
        CHECK.end();
    }

    private static void newObject() {
        CHECK.part("promise 1");
        DamageView view = new DamageView(20, 12);
        CHECK.places(view, 0, 0, 20, 0, 12);
        CHECK.due("count(0)", view.count(0), 0);
        CHECK.due("count(1)", view.count(1), -1);
        CHECK.due("error(0)", view.error(0), -1);
        CHECK.due("attention()", view.attention(), 0);
        CHECK.due("damage()", view.damage(), 240);
        CHECK.due("pixel(0, 0)", view.pixel(0, 0), 0);
        CHECK.due("hit(19, 11)", view.hit(19, 11), 0);
        CHECK.due("hit(20, 11)", view.hit(20, 11), -1);
        CHECK.due("hit(19, 12)", view.hit(19, 12), -1);
    }

    private static void newObjectOfNearestSize() {
        CHECK.part("promise 1, nearest size");
        CHECK.places(new DamageView(1, 1), 0, 0, 1, 0, 1);
        CHECK.places(new DamageView(24, 16), 0, 0, 24, 0, 16);
        CHECK.places(new DamageView(0, 0), 0, 0, 1, 0, 1);
        CHECK.places(new DamageView(25, 17), 0, 0, 24, 0, 16);
        CHECK.places(new DamageView(Integer.MIN_VALUE, Integer.MAX_VALUE), 0, 0, 1, 0, 16);
        CHECK.places(new DamageView(Integer.MAX_VALUE, Integer.MIN_VALUE), 0, 0, 24, 0, 1);
    }

    private static void box() {
        CHECK.part("promise 2");
        DamageView view = new DamageView(24, 16);
        view.paint();
        CHECK.due("box(0, 0)", view.box(0, 0), 1);
        CHECK.due("box(1, 1)", view.box(1, 1), 2);
        CHECK.due("box(2, 2)", view.box(2, 2), 3);
        CHECK.places(view, 3, 0, 0, 0, 0);
        CHECK.due("count(3)", view.count(3), 0);
        CHECK.due("damage()", view.damage(), 0);
        CHECK.due("hide(3, false)", view.hide(3, false), false);
        Check.spread(view, 1, 0, 9, 0, 9);
        Check.spread(view, 2, 0, 9, 0, 9);
        Check.spread(view, 3, 0, 9, 0, 9);
        view.paint();
        CHECK.due("pixel(0, 0) of a switch that is off", view.pixel(0, 0), 4);
    }

    private static void boxRefused() {
        CHECK.part("promise 2, refused");
        DamageView view = new DamageView(24, 16);
        CHECK.due("box(-1, 0)", view.box(-1, 0), -1);
        CHECK.due("box(3, 0)", view.box(3, 0), -1);
        CHECK.due("box(0, 1)", view.box(0, 1), -1);
        CHECK.due("box(0, -1)", view.box(0, -1), -1);
        CHECK.due("box(0, MAX)", view.box(0, Integer.MAX_VALUE), -1);
        CHECK.due("box(MIN, 0)", view.box(Integer.MIN_VALUE, 0), -1);
        for (int number = 1; number < 6; number++) {
            CHECK.due("box(2, 0)", view.box(2, 0), number);
        }
        CHECK.due("seventh box", view.box(0, 0), -1);
        CHECK.due("count(5)", view.count(5), 0);
        CHECK.due("count(6)", view.count(6), -1);
    }

    private static void boxIsLastInOrder() {
        CHECK.part("promise 2, order");
        DamageView view = new DamageView(24, 16);
        view.box(0, 0);
        view.box(0, 0);
        view.raise(1);
        view.box(0, 0);
        for (int box = 1; box <= 3; box++) {
            Check.spread(view, box, 0, 4, 0, 4);
        }
        CHECK.due("hit(0, 0)", view.hit(0, 0), 3);
        CHECK.due("raise(3)", view.raise(3), false);
        view.hide(3, true);
        CHECK.due("hit(0, 0) with 3 hidden", view.hit(0, 0), 1);
    }

    private static void hide() {
        CHECK.part("promise 9");
        DamageView view = new DamageView(24, 16);
        view.box(1, 0);
        Check.spread(view, 1, 2, 6, 3, 8);
        view.step(false);
        view.paint();
        CHECK.due("hide(1, true)", view.hide(1, true), true);
        CHECK.due("hit(2, 3)", view.hit(2, 3), 0);
        CHECK.due("damage()", view.damage(), 20);
        CHECK.due("attention()", view.attention(), 0);
        CHECK.due("hide(1, true) again", view.hide(1, true), false);
        CHECK.places(view, 1, 2, 6, 3, 8);
        CHECK.due("paint()", view.paint(), 20);
        CHECK.due("hide(1, false)", view.hide(1, false), true);
        CHECK.due("hit(2, 3)", view.hit(2, 3), 1);
        CHECK.due("hide(1, false) again", view.hide(1, false), false);
        CHECK.due("damage()", view.damage(), 20);
        CHECK.due("focus is not given back", view.attention(), 0);
        view.paint();
        CHECK.due("pixel(2, 3)", view.pixel(2, 3), 2);
    }

    private static void hideParent() {
        CHECK.part("promise 9, a parent");
        DamageView view = new DamageView(24, 16);
        view.box(0, 0);
        view.box(1, 1);
        view.box(2, 2);
        for (int box = 1; box <= 3; box++) {
            Check.spread(view, box, 0, 4, 0, 4);
        }
        CHECK.due("hit(0, 0)", view.hit(0, 0), 3);
        view.hide(1, true);
        CHECK.due("hit(0, 0)", view.hit(0, 0), 0);
        CHECK.due("step(false)", view.step(false), -1);
        CHECK.due("hide(3, false)", view.hide(3, false), false);
        CHECK.due("hide(3, true)", view.hide(3, true), true);
        view.hide(1, false);
        CHECK.due("hit(0, 0)", view.hit(0, 0), 2);
    }

    private static void hideRefused() {
        CHECK.part("promise 9, refused");
        DamageView view = new DamageView(24, 16);
        view.paint();
        CHECK.due("hide(0, true)", view.hide(0, true), false);
        CHECK.due("hide(0, false)", view.hide(0, false), false);
        CHECK.due("hide(1, true)", view.hide(1, true), false);
        CHECK.due("hide(-1, true)", view.hide(-1, true), false);
        CHECK.due("hide(MAX, true)", view.hide(Integer.MAX_VALUE, true), false);
        CHECK.due("hide(MIN, false)", view.hide(Integer.MIN_VALUE, false), false);
        CHECK.due("damage()", view.damage(), 0);
    }

    private static void raise() {
        CHECK.part("promise 10");
        DamageView view = new DamageView(24, 16);
        for (int box = 1; box <= 3; box++) {
            view.box(0, 0);
            Check.spread(view, box, box, box + 4, 0, 4);
        }
        view.paint();
        CHECK.due("raise(1)", view.raise(1), true);
        CHECK.due("damage()", view.damage(), 16);
        CHECK.due("hit(3, 0)", view.hit(3, 0), 1);
        CHECK.due("hit(5, 0): 3 is still in front of 2", view.hit(5, 0), 3);
        CHECK.due("paint()", view.paint(), 12);
        CHECK.due("raise(2)", view.raise(2), true);
        CHECK.due("hit(3, 0)", view.hit(3, 0), 2);
        view.hide(2, true);
        CHECK.due("hit(3, 0): 1 is still in front of 3", view.hit(3, 0), 1);
        view.paint();
        CHECK.due("raise(3)", view.raise(3), true);
        CHECK.due("raise(2), hidden", view.raise(2), true);
        CHECK.due("damage() of 3 alone", view.damage(), 16);
    }

    private static void raiseWithChildren() {
        CHECK.part("promise 10, children");
        DamageView view = new DamageView(24, 16);
        view.box(0, 0);
        view.box(0, 0);
        view.box(0, 1);
        view.box(0, 1);
        for (int box = 1; box <= 4; box++) {
            Check.spread(view, box, 0, 4, 0, 4);
        }
        CHECK.due("hit(0, 0)", view.hit(0, 0), 2);
        CHECK.due("raise(3)", view.raise(3), true);
        CHECK.due("hit(0, 0) behind 2", view.hit(0, 0), 2);
        CHECK.due("raise(1)", view.raise(1), true);
        CHECK.due("hit(0, 0)", view.hit(0, 0), 3);
        CHECK.due("raise(4)", view.raise(4), true);
        CHECK.due("hit(0, 0)", view.hit(0, 0), 4);
        CHECK.due("raise(1) again", view.raise(1), false);
    }

    private static void raiseRefused() {
        CHECK.part("promise 10, refused");
        DamageView view = new DamageView(24, 16);
        view.box(0, 0);
        view.box(0, 1);
        view.paint();
        CHECK.due("raise(0)", view.raise(0), false);
        CHECK.due("raise(1), an only child", view.raise(1), false);
        CHECK.due("raise(2), an only child", view.raise(2), false);
        CHECK.due("raise(3)", view.raise(3), false);
        CHECK.due("raise(-1)", view.raise(-1), false);
        CHECK.due("raise(MAX)", view.raise(Integer.MAX_VALUE), false);
        CHECK.due("raise(MIN)", view.raise(Integer.MIN_VALUE), false);
        CHECK.due("damage()", view.damage(), 0);
    }

    private static void hit() {
        CHECK.part("promise 11");
        DamageView view = new DamageView(20, 12);
        view.box(0, 0);
        view.box(0, 1);
        Check.spread(view, 1, 2, 6, 3, 8);
        Check.spread(view, 2, 4, 99, -99, 5);
        CHECK.due("hit(2, 3)", view.hit(2, 3), 1);
        CHECK.due("hit(1, 3)", view.hit(1, 3), 0);
        CHECK.due("hit(2, 2)", view.hit(2, 2), 0);
        CHECK.due("hit(3, 7)", view.hit(3, 7), 1);
        CHECK.due("hit(3, 8)", view.hit(3, 8), 0);
        CHECK.due("hit(4, 3)", view.hit(4, 3), 2);
        CHECK.due("hit(5, 4)", view.hit(5, 4), 2);
        CHECK.due("hit(6, 4), outside the parent", view.hit(6, 4), 0);
        CHECK.due("hit(5, 2), outside the parent", view.hit(5, 2), 0);
        CHECK.due("hit(5, 5)", view.hit(5, 5), 1);
    }

    private static void hitSixDeep() {
        CHECK.part("promise 11, each box in the one before");
        DamageView view = new DamageView(24, 16);
        for (int box = 1; box <= 5; box++) {
            view.box(0, box - 1);
            Check.spread(view, box, box, 24, box, 16);
        }
        for (int box = 0; box <= 5; box++) {
            CHECK.due("hit(" + box + ", 15)", view.hit(box, 15), box);
        }
        CHECK.due("hit(23, 15)", view.hit(23, 15), 5);
    }

    private static void hitOutside() {
        CHECK.part("promise 11, outside");
        DamageView view = new DamageView(20, 12);
        view.box(0, 0);
        Check.spread(view, 1, -99, 99, -99, 99);
        CHECK.due("hit(0, 0)", view.hit(0, 0), 1);
        CHECK.due("hit(20, 0)", view.hit(20, 0), -1);
        CHECK.due("hit(0, 12)", view.hit(0, 12), -1);
        CHECK.due("hit(-1, 0)", view.hit(-1, 0), -1);
        CHECK.due("hit(0, -1)", view.hit(0, -1), -1);
        CHECK.due("hit(24, 16)", view.hit(24, 16), -1);
        CHECK.due("hit(MAX, 0)", view.hit(Integer.MAX_VALUE, 0), -1);
        CHECK.due("hit(0, MIN)", view.hit(0, Integer.MIN_VALUE), -1);
    }

    private static void newObjectOfOneNearestSide() {
        CHECK.part("promise 1, one side out of bounds");
        int[][] asked = {{0, 5}, {-7, 16}, {25, 5}, {99, 1}, {5, 0}, {24, -7}, {5, 17}, {1, 99}, {2, 15}, {23, 2}};
        int[][] due = {{1, 5}, {1, 16}, {24, 5}, {24, 1}, {5, 1}, {24, 1}, {5, 16}, {1, 16}, {2, 15}, {23, 2}};
        for (int i = 0; i < asked.length; i++) {
            DamageView view = new DamageView(asked[i][0], asked[i][1]);
            int width = due[i][0];
            int height = due[i][1];
            CHECK.places(view, 0, 0, width, 0, height);
            CHECK.due("damage()", view.damage(), width * height);
            CHECK.due("hit at the last point", view.hit(width - 1, height - 1), 0);
            CHECK.due("hit right of it", view.hit(width, height - 1), -1);
            CHECK.due("hit below it", view.hit(width - 1, height), -1);
            CHECK.due("constrain", view.constrain(1, 0, width, 0, 0), 0);
            CHECK.due("suggest(3, 8)", view.suggest(3, 8), true);
            CHECK.places(view, 0, 0, width, 0, height);
        }
    }

    private static void boxIsNotHidden() {
        CHECK.part("promise 2, not hidden, also in a hidden parent");
        DamageView view = new DamageView(24, 16);
        view.box(0, 0);
        Check.spread(view, 1, 0, 9, 0, 9);
        view.hide(1, true);
        view.paint();
        CHECK.due("box(1, 1)", view.box(1, 1), 2);
        CHECK.due("hide(2, false)", view.hide(2, false), false);
        Check.spread(view, 2, 0, 4, 0, 4);
        CHECK.due("hit(0, 0)", view.hit(0, 0), 0);
        CHECK.due("damage()", view.damage(), 0);
        view.hide(1, false);
        CHECK.due("hit(0, 0)", view.hit(0, 0), 2);
    }

    private static void boxWhileOthersAreHeld() {
        CHECK.part("promise 2, no solving and no change of another box");
        DamageView view = new DamageView(24, 16);
        view.box(1, 0);
        Check.spread(view, 1, 2, 6, 3, 8);
        view.constrain(4, 0, 1, 0, 1);
        view.press(4, 4);
        view.suggest(4, 4);
        view.paint();
        CHECK.due("box(2, 1)", view.box(2, 1), 2);
        CHECK.places(view, 1, 4, 6, 3, 8);
        CHECK.places(view, 2, 0, 0, 0, 0);
        CHECK.due("attention()", view.attention(), 2 + 8 * 2);
        CHECK.due("damage()", view.damage(), 0);
        CHECK.due("hit(0, 0): its area is empty", view.hit(0, 0), 0);
    }

    private static void raiseDamagesItsAreaAlone() {
        CHECK.part("promise 10, damage");
        DamageView view = new DamageView(24, 16);
        view.box(0, 0);
        view.box(0, 1);
        view.box(0, 0);
        view.box(0, 0);
        Check.spread(view, 1, 2, 6, 2, 6);
        Check.spread(view, 2, 0, 24, 5, 16);
        Check.spread(view, 3, 4, 10, 4, 10);
        view.paint();
        CHECK.due("raise(1)", view.raise(1), true);
        CHECK.due("damage(): as much of its child as is in it", view.damage(), 16);
        CHECK.due("paint()", view.paint(), 4);
        CHECK.due("raise(4), an empty area", view.raise(4), true);
        CHECK.due("damage()", view.damage(), 0);
        CHECK.due("raise(4) again", view.raise(4), false);
        view.hide(1, true);
        view.paint();
        CHECK.due("raise(1), hidden", view.raise(1), true);
        CHECK.due("damage()", view.damage(), 0);
        view.hide(1, false);
        CHECK.due("hit(4, 4): it was raised all the same", view.hit(4, 4), 1);
    }

    private static void raiseUntilItIsTheLast() {
        CHECK.part("promise 10, \"the last already\"");
        DamageView view = new DamageView(24, 16);
        int[] parents = {0, 0, 1, 1, 0};
        for (int parent : parents) {
            view.box(0, parent);
        }
        int[] raised = {5, 4, 3, 3, 4, 1, 1, 5, 2, 5, 4, 3};
        boolean[] due = {false, false, true, false, true, true, false, true, true, true, false, true};
        for (int i = 0; i < raised.length; i++) {
            CHECK.due("raise(" + raised[i] + "), the call with index " + i, view.raise(raised[i]), due[i]);
        }
    }

    private static void hitOfEachPoint() {
        CHECK.part("promise 11, each point");
        DamageView view = new DamageView(9, 7);
        view.box(0, 0);
        view.box(0, 0);
        Check.spread(view, 1, 1, 5, 1, 4);
        Check.spread(view, 2, 3, 7, 2, 6);
        for (int y = -1; y <= 16; y++) {
            for (int x = -1; x <= 24; x++) {
                boolean inFirst = x >= 1 && x < 5 && y >= 1 && y < 4;
                boolean inSecond = x >= 3 && x < 7 && y >= 2 && y < 6;
                boolean inWindow = x >= 0 && x < 9 && y >= 0 && y < 7;
                int due = inSecond ? 2 : inFirst ? 1 : inWindow ? 0 : -1;
                CHECK.due("hit(" + x + ", " + y + ")", view.hit(x, y), due);
            }
        }
    }
}

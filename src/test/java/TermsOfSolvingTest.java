/**
 * One test for each sentence of the document's "Terms" that names a boundary of
 * boxes, edges, constraints and solving.
 */
public final class TermsOfSolvingTest {
    private static final Check CHECK = new Check();

    public static void main(String[] args) {
        atMostSixBoxes();
        windowIsAPanel();
        parentHasALowerNumber();
        edgeNumbers();
        twoDifferentEdgesAlongOneAxis();
        errorOfFormZero();
        errorOfFormOne();
        atMostSixteenConstraints();
        lowestNumberThatIsFree();
        anyInts();
        windowStaysInItsPlace();
        rightIsNotLessThanLeft();
        bottomIsNotLessThanTop();
        hiddenBoxesAreSolvedToo();
        requiredErrorsAreZero();
        conflictOfAllTogether();
        suggestionIsLeastFar();
        suggestionBeforeStrong();
        firstStrongByNumber();
        secondStrongOfWhatRemains();
        strengthsBeforeNumbers();
        leastErrorThatIsNotZero();
        edgesByNumber();
        whereItWasBefore();
        axesDoNotMeet();
        CHECK.end();
    }

    private static DamageView withBoxes(int boxes) {
        DamageView view = new DamageView(20, 12);
        for (int box = 1; box <= boxes; box++) {
            view.box(0, 0);
        }
        return view;
    }

    private static void atMostSixBoxes() {
        CHECK.part("\"at most six BOXES\"");
        DamageView view = withBoxes(4);
        CHECK.due("suggest(20, 3) with five boxes", view.suggest(20, 3), false);
        CHECK.due("the sixth", view.box(2, 4), 5);
        CHECK.due("the seventh", view.box(2, 4), -1);
        CHECK.due("the seventh again", view.box(0, 0), -1);
        CHECK.due("count(5)", view.count(5), 0);
        CHECK.due("count(6)", view.count(6), -1);
        CHECK.due("suggest(23, 3)", view.suggest(23, 3), true);
        CHECK.due("place(23)", view.place(23), 3);
        CHECK.due("suggest(24, 3)", view.suggest(24, 3), false);
        CHECK.due("place(24)", view.place(24), 0);
        CHECK.due("hide(6, true)", view.hide(6, true), false);
        CHECK.due("raise(6)", view.raise(6), false);
    }

    private static void windowIsAPanel() {
        CHECK.part("\"box 0 is the WINDOW (kind 0)\"");
        DamageView view = new DamageView(20, 12);
        CHECK.due("step(false)", view.step(false), -1);
        CHECK.due("press(0, 0)", view.press(0, 0), 0);
        CHECK.due("attention()", view.attention(), 0);
        CHECK.due("release(0, 0)", view.release(0, 0), -2);
        CHECK.due("key()", view.key(), -1);
        CHECK.due("count(0)", view.count(0), 0);
    }

    private static void parentHasALowerNumber() {
        CHECK.part("\"a PARENT with a lower number\"");
        DamageView view = new DamageView(20, 12);
        for (int number = 1; number < 6; number++) {
            CHECK.due("its own number for a parent", view.box(0, number), -1);
            CHECK.due("the number before for a parent", view.box(0, number - 1), number);
        }
    }

    private static void edgeNumbers() {
        CHECK.part("\"EDGE 4 b + s\"");
        DamageView view = withBoxes(5);
        for (int box = 1; box < 6; box++) {
            Check.spread(view, box, 3 * box, 3 * box + 2, box, box + 3);
        }
        for (int box = 1; box < 6; box++) {
            CHECK.places(view, box, 3 * box, 3 * box + 2, box, box + 3);
            CHECK.due("hit at its left and top", view.hit(3 * box, box), box);
            CHECK.due("hit at its right and bottom", view.hit(3 * box + 1, box + 2), box);
            CHECK.due("hit before its left", view.hit(3 * box - 1, box), 0);
            CHECK.due("hit above its top", view.hit(3 * box, box - 1), 0);
        }
        CHECK.places(view, 0, 0, 20, 0, 12);
    }

    private static void twoDifferentEdgesAlongOneAxis() {
        CHECK.part("\"two different edges p, q along one axis\"");
        for (int p = -1; p <= 24; p++) {
            DamageView view = withBoxes(5);
            for (int q = -1; q <= 24; q++) {
                boolean edges = p >= 0 && p < 24 && q >= 0 && q < 24;
                boolean fine = edges && p != q && p % 4 / 2 == q % 4 / 2;
                String call = "constrain(" + p + ", " + q + ", 0, 0, 3)";
                CHECK.due(call, view.constrain(p, q, 0, 0, 3), fine ? 0 : -1);
                CHECK.due("remove(0) after " + call, view.remove(0), fine);
            }
        }
    }

    private static void errorOfFormZero() {
        CHECK.part("\"form 0 (p - q = c), how far .. from c (0 or more)\"");
        DamageView view = withBoxes(2);
        view.constrain(8, 4, -3, 0, 3);
        int[] lefts = {-4, -3, -2, 99, -99};
        int[] errors = {1, 0, 1, 102, 96};
        view.constrain(4, 0, 0, 0, 1);
        for (int i = 0; i < lefts.length; i++) {
            view.suggest(8, lefts[i]);
            CHECK.due("place(4)", view.place(4), 0);
            CHECK.due("error(0) at " + lefts[i], view.error(0), errors[i]);
        }
    }

    private static void errorOfFormOne() {
        CHECK.part("\"form 1 (p - q >= c), how much it is less than c, 0 if it isn't\"");
        DamageView view = withBoxes(2);
        view.constrain(8, 4, -3, 1, 3);
        int[] lefts = {-4, -3, -2, 99, -99};
        int[] errors = {1, 0, 0, 0, 96};
        view.constrain(4, 0, 0, 0, 1);
        for (int i = 0; i < lefts.length; i++) {
            view.suggest(8, lefts[i]);
            CHECK.due("place(4)", view.place(4), 0);
            CHECK.due("error(0) at " + lefts[i], view.error(0), errors[i]);
        }
    }

    private static void atMostSixteenConstraints() {
        CHECK.part("\"There are at most 16, numbered from 0\"");
        DamageView view = withBoxes(1);
        for (int number = 0; number < 16; number++) {
            CHECK.due("error before", view.error(number), -1);
            CHECK.due("constrain", view.constrain(4, 0, number, 0, number % 3 + 1), number);
        }
        CHECK.due("error(15)", view.error(15) >= 0, true);
        CHECK.due("error(16)", view.error(16), -1);
        CHECK.due("the seventeenth", view.constrain(4, 0, 0, 0, 1), -2);
        CHECK.due("the seventeenth on the other axis", view.constrain(6, 2, 0, 0, 1), -2);
        CHECK.due("place(4), that of the first strong one", view.place(4), 0);
        CHECK.due("error(15), a strong one", view.error(15), 15);
    }

    private static void lowestNumberThatIsFree() {
        CHECK.part("\"a new one gets the lowest number that is free\"");
        DamageView view = withBoxes(1);
        for (int number = 0; number < 16; number++) {
            view.constrain(6, 2, number, 1, 3);
        }
        int[] taken = {15, 4, 9, 0};
        for (int number : taken) {
            CHECK.due("remove", view.remove(number), true);
        }
        CHECK.due("a refused one takes none", view.constrain(6, 7, 1, 1, 0), -3);
        CHECK.due("a wrong one takes none", view.constrain(6, 4, 1, 1, 0), -1);
        int[] given = {0, 4, 9, 15, -2};
        for (int number : given) {
            CHECK.due("constrain", view.constrain(6, 2, 20 + number, 0, 1), number);
        }
        CHECK.due("place(6): number 0 is the first strong one", view.place(6), 20);
    }

    private static void anyInts() {
        CHECK.part("\"all choices of places (any ints)\"");
        int[] alongX = {4, 5, 8, 9, 12, 13, 16, 17, 20, 21};
        DamageView right = withBoxes(5);
        DamageView left = withBoxes(5);
        DamageView pulled = withBoxes(5);
        int before = 0;
        for (int edge : alongX) {
            CHECK.due("99 right of the last", right.constrain(edge, before, 99, 0, 0) >= 0, true);
            before = edge;
        }
        before = 0;
        for (int edge : alongX) {
            CHECK.due("99 left of the last", left.constrain(edge ^ 1, before, -99, 0, 0) >= 0, true);
            before = edge ^ 1;
        }
        for (int i = 1; i < alongX.length; i++) {
            pulled.constrain(alongX[i], alongX[i - 1], 99, 0, 1);
        }
        pulled.suggest(4, 99);
        CHECK.due("place(21), far right", right.place(21), 990);
        CHECK.due("place(20), far left", left.place(20), -990);
        CHECK.due("place(21), pulled right", pulled.place(21), 990);
        pulled.suggest(21, -99);
        CHECK.due("place(4), pulled left", pulled.place(4), -99 - 9 * 99);
        CHECK.due("hit(0, 0)", right.hit(0, 0), 0);
    }

    private static void windowStaysInItsPlace() {
        CHECK.part("\"the window's left and top are 0, its right is the width and its bottom the height\"");
        DamageView view = withBoxes(1);
        CHECK.due("strong, width 5", view.constrain(1, 0, 5, 0, 1), 0);
        CHECK.due("strong, left right of right", view.constrain(0, 1, 5, 1, 1), 1);
        CHECK.due("strong, height 14", view.constrain(3, 2, 14, 1, 1), 2);
        CHECK.due("error(0)", view.error(0), 15);
        CHECK.due("error(1)", view.error(1), 25);
        CHECK.due("error(2)", view.error(2), 2);
        for (int edge = 0; edge < 4; edge++) {
            CHECK.due("suggest of the window", view.suggest(edge, 7), true);
            CHECK.places(view, 0, 0, 20, 0, 12);
        }
        CHECK.due("required, width 19", view.constrain(1, 0, 19, 0, 0), -3);
        CHECK.due("required, width 21", view.constrain(1, 0, 21, 1, 0), -3);
        CHECK.due("required, width 20", view.constrain(1, 0, 20, 1, 0), 3);
        CHECK.due("required, height 11", view.constrain(2, 3, -11, 1, 0), -3);
        CHECK.due("required, height 12", view.constrain(2, 3, -12, 1, 0), 4);
        view.constrain(4, 0, 3, 0, 0);
        view.constrain(6, 2, 4, 0, 0);
        CHECK.places(view, 1, 3, 3, 4, 4);
        view.constrain(5, 1, 0, 0, 0);
        view.constrain(7, 3, 0, 0, 0);
        CHECK.places(view, 1, 3, 20, 4, 12);
        CHECK.places(view, 0, 0, 20, 0, 12);
    }

    private static void rightIsNotLessThanLeft() {
        CHECK.part("\"no box's right is less than its left\"");
        DamageView view = withBoxes(1);
        view.suggest(5, -3);
        CHECK.places(view, 1, -3, -3, 0, 0);
        view.suggest(4, 9);
        CHECK.places(view, 1, 9, 9, 0, 0);
        CHECK.due("required, right = left - 1", view.constrain(5, 4, -1, 0, 0), -3);
        CHECK.due("required, left >= right + 1", view.constrain(4, 5, 1, 1, 0), -3);
        CHECK.due("strong, right = left - 1", view.constrain(5, 4, -1, 0, 1), 0);
        CHECK.due("its error", view.error(0), 1);
        CHECK.due("required, left >= right", view.constrain(4, 5, 0, 1, 0), 1);
        view.suggest(5, 12);
        CHECK.places(view, 1, 12, 12, 0, 0);
    }

    private static void bottomIsNotLessThanTop() {
        CHECK.part("\"nor its bottom less than its top\"");
        DamageView view = withBoxes(1);
        view.suggest(7, -3);
        CHECK.places(view, 1, 0, 0, -3, -3);
        view.suggest(6, 9);
        CHECK.places(view, 1, 0, 0, 9, 9);
        CHECK.due("required, bottom = top - 1", view.constrain(7, 6, -1, 0, 0), -3);
        CHECK.due("required, top >= bottom + 1", view.constrain(6, 7, 1, 1, 0), -3);
        CHECK.due("strong, bottom = top - 1", view.constrain(7, 6, -1, 0, 1), 0);
        CHECK.due("its error", view.error(0), 1);
        CHECK.due("required, top >= bottom", view.constrain(6, 7, 0, 1, 0), 1);
        view.suggest(7, 12);
        CHECK.places(view, 1, 0, 0, 12, 12);
    }

    private static void hiddenBoxesAreSolvedToo() {
        CHECK.part("\"SOLVING finds a place for every edge anew\", also of a hidden box");
        DamageView view = withBoxes(2);
        view.hide(1, true);
        view.suggest(5, 6);
        CHECK.places(view, 1, 0, 6, 0, 0);
        view.suggest(4, 8);
        CHECK.places(view, 1, 8, 8, 0, 0);
        view.constrain(8, 5, 2, 0, 0);
        CHECK.places(view, 2, 10, 10, 0, 0);
        CHECK.due("required, left > right", view.constrain(4, 5, 1, 1, 0), -3);
    }

    private static void requiredErrorsAreZero() {
        CHECK.part("\"the errors of all REQUIRED constraints are 0\"");
        DamageView view = withBoxes(3);
        view.constrain(8, 4, 3, 0, 0);
        view.constrain(12, 8, 4, 1, 0);
        view.constrain(12, 4, 2, 0, 1);
        CHECK.due("error(0)", view.error(0), 0);
        CHECK.due("error(1)", view.error(1), 0);
        CHECK.due("error(2), strong against them", view.error(2), 5);
        view.suggest(8, 99);
        CHECK.due("place(4)", view.place(4), 96);
        CHECK.due("place(12)", view.place(12), 103);
        view.suggest(12, -99);
        CHECK.due("error(0)", view.error(0), 0);
        CHECK.due("error(1)", view.error(1), 0);
        CHECK.due("place(12)", view.place(12), -99);
    }

    private static void conflictOfAllTogether() {
        CHECK.part("\"If there is none, there is a CONFLICT\"");
        DamageView view = withBoxes(3);
        CHECK.due("a - b = 3", view.constrain(4, 8, 3, 0, 0), 0);
        CHECK.due("b - c = 4", view.constrain(8, 12, 4, 0, 0), 1);
        CHECK.due("a - c = 8", view.constrain(4, 12, 8, 0, 0), -3);
        CHECK.due("a - c >= 8", view.constrain(4, 12, 8, 1, 0), -3);
        CHECK.due("c - a >= -6", view.constrain(12, 4, -6, 1, 0), -3);
        CHECK.due("a - c = 7", view.constrain(4, 12, 7, 0, 0), 2);
        CHECK.due("c - a >= -7", view.constrain(12, 4, -7, 1, 0), 3);
        CHECK.due("the same one twice", view.constrain(4, 8, 3, 0, 0), 4);
        CHECK.due("no conflict by a strong one", view.constrain(4, 12, 8, 0, 1), 5);
        CHECK.due("nor by a medium one", view.constrain(4, 12, 99, 1, 2), 6);
        CHECK.due("nor by a weak one", view.constrain(4, 12, -99, 0, 3), 7);
        view.remove(0);
        CHECK.due("a - b = 5 while it is held twice", view.constrain(4, 8, 5, 0, 0), -3);
    }

    private static void suggestionIsLeastFar() {
        CHECK.part("\"the SUGGESTION .. is least far from being met\"");
        DamageView view = withBoxes(1);
        view.constrain(4, 0, 3, 1, 0);
        view.constrain(1, 4, 11, 1, 0);
        int[] suggested = {99, -99, 5, 3, 9, 2, 10};
        int[] due = {9, 3, 5, 3, 9, 3, 9};
        for (int i = 0; i < suggested.length; i++) {
            CHECK.due("suggest", view.suggest(4, suggested[i]), true);
            CHECK.due("place(4) near " + suggested[i], view.place(4), due[i]);
        }
    }

    private static void suggestionBeforeStrong() {
        CHECK.part("the SUGGESTION first, \"of those, the ones in which the error of the first STRONG .. is least\"");
        DamageView view = withBoxes(1);
        view.constrain(4, 0, 4, 0, 1);
        view.constrain(5, 4, 6, 0, 1);
        view.suggest(4, 7);
        CHECK.places(view, 1, 7, 13, 0, 0);
        CHECK.due("error(0)", view.error(0), 3);
        view.suggest(5, 1);
        CHECK.places(view, 1, 1, 1, 0, 0);
        CHECK.due("error(0): as near to 4 as the right edge lets it", view.error(0), 3);
        CHECK.due("error(1)", view.error(1), 6);
    }

    private static void firstStrongByNumber() {
        CHECK.part("\"the first STRONG constraint by number\"");
        DamageView view = withBoxes(1);
        view.constrain(4, 0, 5, 0, 1);
        view.constrain(4, 0, 9, 0, 1);
        view.constrain(4, 0, 9, 0, 1);
        CHECK.due("place(4): one goes before two", view.place(4), 5);
        view.remove(0);
        CHECK.due("place(4)", view.place(4), 9);
        view.constrain(4, 0, 2, 0, 1);
        CHECK.due("place(4): the youngest has number 0", view.place(4), 2);
    }

    private static void secondStrongOfWhatRemains() {
        CHECK.part("\"then of these of the second\"");
        DamageView view = withBoxes(1);
        view.constrain(4, 0, 5, 1, 1);
        view.constrain(4, 0, 3, 0, 1);
        CHECK.due("place(4): 5 or more, and near 3", view.place(4), 5);
        view.remove(1);
        view.constrain(4, 0, 9, 0, 1);
        CHECK.due("place(4): 5 or more, and 9", view.place(4), 9);
        view.constrain(0, 4, -7, 1, 1);
        CHECK.due("place(4): the third changes nothing", view.place(4), 9);
        CHECK.due("error(2)", view.error(2), 2);
    }

    private static void strengthsBeforeNumbers() {
        CHECK.part("\"all strong, then all medium, then all weak ones by number\"");
        DamageView view = withBoxes(1);
        view.constrain(4, 0, 9, 0, 3);
        view.constrain(4, 0, 8, 0, 3);
        CHECK.due("place(4), weak", view.place(4), 9);
        view.constrain(4, 0, 7, 0, 2);
        view.constrain(4, 0, 6, 0, 2);
        CHECK.due("place(4), medium", view.place(4), 7);
        view.constrain(4, 0, 5, 0, 1);
        CHECK.due("place(4), strong", view.place(4), 5);
        view.constrain(4, 0, 4, 0, 0);
        CHECK.due("place(4), required", view.place(4), 4);
        for (int number = 5; number >= 4; number--) {
            view.remove(number);
        }
        CHECK.due("place(4), medium again", view.place(4), 7);
        view.remove(2);
        CHECK.due("place(4), the other medium one", view.place(4), 6);
        view.remove(3);
        CHECK.due("place(4), weak again", view.place(4), 9);
    }

    private static void leastErrorThatIsNotZero() {
        CHECK.part("\"the error .. is least\", though not 0");
        DamageView view = withBoxes(1);
        view.constrain(1, 5, 8, 1, 0);
        view.constrain(5, 0, 30, 1, 1);
        CHECK.due("place(5), as far as can be", view.place(5), 12);
        CHECK.due("error(1)", view.error(1), 18);
        view.constrain(4, 0, 40, 0, 2);
        CHECK.due("place(4), as far as its right edge", view.place(4), 12);
        CHECK.due("error(2)", view.error(2), 28);
        view.constrain(5, 4, 3, 0, 3);
        CHECK.due("error(3), the weak one", view.error(3), 3);
        view.remove(2);
        CHECK.places(view, 1, 9, 12, 0, 0);
    }

    private static void edgesByNumber() {
        CHECK.part("\"edge by edge by number\"");
        DamageView view = withBoxes(4);
        for (int box = 2; box <= 4; box++) {
            Check.spread(view, box, 5, 5, 0, 0);
        }
        view.constrain(8, 12, 0, 0, 0);
        view.constrain(12, 16, 0, 0, 0);
        view.constrain(4, 8, 0, 0, 0);
        CHECK.due("place(4): one edge goes before three", view.place(4), 0);
        CHECK.due("place(16)", view.place(16), 0);
        view.constrain(17, 5, -4, 0, 0);
        CHECK.due("place(5) must give way, for 17 can't be less than 16", view.place(5), 4);
        CHECK.due("place(17)", view.place(17), 0);
        view.constrain(4, 8, 0, 0, 3);
        CHECK.places(view, 1, 0, 4, 0, 0);
    }

    private static void whereItWasBefore() {
        CHECK.part("\"least far from where it was before\"");
        DamageView view = withBoxes(1);
        Check.spread(view, 1, 2, 9, 3, 4);
        view.constrain(4, 0, 5, 1, 0);
        CHECK.places(view, 1, 5, 9, 3, 4);
        view.remove(0);
        CHECK.places(view, 1, 5, 9, 3, 4);
        view.constrain(1, 5, 14, 1, 0);
        CHECK.places(view, 1, 5, 6, 3, 4);
        view.resize(24, 12);
        CHECK.places(view, 1, 5, 6, 3, 4);
        view.resize(18, 12);
        CHECK.places(view, 1, 4, 4, 3, 4);
        view.resize(24, 12);
        CHECK.places(view, 1, 4, 4, 3, 4);
    }

    private static void axesDoNotMeet() {
        CHECK.part("\"top and bottom edges along the other one\"");
        DamageView view = withBoxes(1);
        Check.spread(view, 1, 2, 9, 3, 8);
        view.suggest(4, 7);
        CHECK.places(view, 1, 7, 9, 3, 8);
        view.suggest(6, 10);
        CHECK.places(view, 1, 7, 9, 10, 10);
        view.constrain(7, 6, 1, 0, 0);
        CHECK.places(view, 1, 7, 9, 10, 11);
    }
}

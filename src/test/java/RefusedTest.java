import java.util.function.Function;
import java.util.function.Supplier;

/**
 * "A call that is refused changes nothing", and neither does one that only asks. Two objects get the same calls,
 * one of them the refused one too: all that can be asked must be the same of both, at once and after a row of
 * further calls.
 */
public final class RefusedTest {
    private static final int MOST = Integer.MAX_VALUE;
    private static final int LEAST = Integer.MIN_VALUE;
    private static final int FURTHER_CALLS = 48;
    private static final Check CHECK = new Check();

    public static void main(String[] args) {
        statesAreAsTold();
        box();
        constrain();
        constrainWhenSixteenAreThere();
        constrainWithConflict();
        remove();
        suggest();
        resize();
        hide();
        raise();
        press();
        release();
        stepAndKey();
        asking();
        CHECK.end();
    }

    /**
     * Of each kind of state something is there that a stray change would spoil: a place that the next solving
     * moves (edge 16), a hidden box (4), an order that was changed (3 is the last), a switch that is on (2) and
     * has the focus, another box that is pressed (3), counts, a free constraint number between others (2), points
     * that are damaged (those of 2) and points that are not.
     */
    private static DamageView busy() {
        DamageView view = new DamageView(20, 12);
        view.box(0, 0);
        view.box(2, 1);
        view.box(1, 0);
        view.box(2, 0);
        Check.spread(view, 1, 2, 10, 2, 9);
        Check.spread(view, 2, 3, 8, 3, 8);
        Check.spread(view, 3, 8, 14, 4, 10);
        Check.spread(view, 4, 12, 18, 1, 6);
        view.constrain(4, 0, 2, 1, 0);
        view.constrain(9, 8, 5, 0, 1);
        view.constrain(13, 12, 6, 1, 2);
        view.constrain(1, 17, 1, 1, 0);
        view.constrain(16, 0, 12, 0, 3);
        view.remove(2);
        view.raise(3);
        view.hide(4, true);
        view.press(9, 9);
        view.step(false);
        view.paint();
        view.key();
        view.suggest(16, 11);
        return view;
    }

    private static void statesAreAsTold() {
        CHECK.part("the states of this test");
        CHECK.due("attention() when busy", busy().attention(), 3 + 8 * 4);
        CHECK.due("damage() when busy", busy().damage(), 25);
        CHECK.due("place(16) when busy", busy().place(16), 11);
        CHECK.due("attention() at rest", atRest().attention(), 3);
        CHECK.due("damage() at rest", atRest().damage(), 0);
        CHECK.due("place(16) at rest", atRest().place(16), 11);
        CHECK.due("count(5) when full", full().count(5), 0);
        CHECK.due("error(15) when full", full().error(15) >= 0, true);
        CHECK.due("attention() when full", full().attention(), 3 + 8 * 4);
        CHECK.due("damage() when full", full().damage(), 25);
        CHECK.due("place(16) when full", full().place(16), 11);
        CHECK.due("place(4) with none that can", withNoneThatCan().place(4), 3);
    }

    private static DamageView atRest() {
        DamageView view = busy();
        view.release(0, 0);
        view.paint();
        return view;
    }

    private static DamageView full() {
        DamageView view = busy();
        view.box(1, 3);
        Check.spread(view, 5, 9, 12, 5, 9);
        for (int number = 4; number < 16; number++) {
            view.constrain(20, 12, number - 8, number % 2, number % 3 + 1);
        }
        view.paint();
        view.key();
        view.suggest(16, 11);
        return view;
    }

    private static DamageView withNoneThatCan() {
        DamageView view = new DamageView(9, 9);
        view.box(0, 0);
        view.box(1, 0);
        view.box(2, 0);
        Check.spread(view, 1, 1, 4, 1, 4);
        Check.spread(view, 3, 3, 6, 3, 6);
        view.hide(3, true);
        view.constrain(4, 0, 2, 0, 1);
        view.paint();
        view.suggest(4, 3);
        return view;
    }

    private static void same(Supplier<DamageView> state, String call, Function<DamageView, Object> made, Object due) {
        CHECK.due(call + " is " + due, made.apply(state.get()).equals(due), true);
        for (int calls = 0; calls <= FURTHER_CALLS; calls += 12) {
            int further = calls;
            Supplier<DamageView> spared = () -> later(state.get(), further);
            Supplier<DamageView> asked = () -> {
                DamageView view = state.get();
                made.apply(view);
                return later(view, further);
            };
            CHECK.due(call + ": the same after " + further + " calls more", all(asked).equals(all(spared)), true);
        }
    }

    /** Further calls show what can't be asked: the size, the order, who is hidden, which points are damaged. */
    private static DamageView later(DamageView view, int calls) {
        for (int call = 0; call < calls; call++) {
            further(view, call);
        }
        return view;
    }

    private static void further(DamageView view, int call) {
        int number = call / 12;
        switch (call % 12) {
            case 0, 4, 11 -> view.paint();
            case 1 -> view.raise(number % 4 + 1);
            case 2 -> view.step(number % 3 == 1);
            case 3 -> view.key();
            case 5 -> view.suggest(15, number + 3);
            case 6 -> view.hide(number + 1, false);
            case 7 -> view.constrain(5, 1, -number, 0, 1);
            case 8 -> view.remove(2 * number);
            case 9 -> view.resize(17 + number, 11);
            default -> view.box(2, 0);
        }
    }

    /** All that can be asked; in parts, each of a new object, for one object is good for 512 calls. */
    private static String all(Supplier<DamageView> state) {
        StringBuilder text = new StringBuilder();
        numbers(state.get(), text);
        for (int top = 0; top < 16; top += 8) {
            DamageView hits = state.get();
            DamageView pixels = state.get();
            for (int point = top * 24; point < (top + 8) * 24; point++) {
                text.append(hits.hit(point % 24, point / 24)).append(' ');
                text.append(pixels.pixel(point % 24, point / 24)).append(' ');
            }
        }
        return text.toString();
    }

    private static void numbers(DamageView view, StringBuilder text) {
        for (int edge = 0; edge < 24; edge++) {
            text.append(view.place(edge)).append(' ');
        }
        for (int constraint = 0; constraint < 16; constraint++) {
            text.append(view.error(constraint)).append(' ');
        }
        for (int box = 0; box < 6; box++) {
            text.append(view.count(box)).append(' ');
        }
        text.append(view.attention()).append(' ').append(view.damage()).append(' ');
    }

    private static void refusedBox(Supplier<DamageView> state, int kind, int parent) {
        same(state, "box(" + kind + ", " + parent + ")", view -> view.box(kind, parent), -1);
    }

    private static void box() {
        CHECK.part("promise 2, refused");
        int[] wrongKinds = {-1, 3, MOST, LEAST};
        for (int kind : wrongKinds) {
            refusedBox(RefusedTest::busy, kind, 0);
        }
        int[] wrongParents = {-1, 5, 6, MOST, LEAST};
        for (int parent : wrongParents) {
            refusedBox(RefusedTest::busy, 1, parent);
        }
        for (int kind = 0; kind < 3; kind++) {
            refusedBox(RefusedTest::full, kind, 5 - kind);
        }
    }

    private static void refusedConstrain(Supplier<DamageView> state, int due, int[] c) {
        String call = "constrain" + java.util.Arrays.toString(c);
        same(state, call, view -> view.constrain(c[0], c[1], c[2], c[3], c[4]), due);
    }

    private static final int[][] WRONG = {
        {-1, 4, 0, 0, 1}, {4, -1, 0, 0, 1}, {24, 4, 0, 0, 1}, {4, 24, 0, 0, 1}, {MOST, 4, 0, 0, 1},
        {4, LEAST, 0, 0, 1}, {9, 9, 0, 0, 1}, {9, 9, 0, 1, 0}, {4, 6, 0, 0, 1}, {5, 6, 0, 0, 1},
        {7, 5, 0, 0, 1}, {6, 4, 0, 0, 1}, {9, 8, -100, 0, 1}, {9, 8, 100, 0, 1}, {9, 8, LEAST, 1, 1},
        {9, 8, MOST, 1, 1}, {9, 8, 1, -1, 1}, {9, 8, 1, 2, 1}, {9, 8, 1, LEAST, 1}, {9, 8, 1, 0, -1},
        {9, 8, 1, 0, 4}, {9, 8, 1, 0, MOST},
    };

    private static void constrain() {
        CHECK.part("promise 3, refused (-1)");
        for (int[] call : WRONG) {
            refusedConstrain(RefusedTest::busy, -1, call);
        }
        refusedConstrain(RefusedTest::busy, -1, new int[] {20, 4, 0, 0, 1});
        refusedConstrain(RefusedTest::busy, -1, new int[] {4, 20, 0, 0, 1});
        // Were it not wrong, each of these would be a conflict: -1 goes before -3.
        refusedConstrain(RefusedTest::busy, -1, new int[] {4, 5, 100, 1, 0});
        refusedConstrain(RefusedTest::busy, -1, new int[] {4, 5, 1, 2, 0});
    }

    private static void constrainWhenSixteenAreThere() {
        CHECK.part("promise 3, refused (-2)");
        for (int[] call : WRONG) {
            refusedConstrain(RefusedTest::full, -1, call);
        }
        for (int strength = 0; strength < 4; strength++) {
            refusedConstrain(RefusedTest::full, -2, new int[] {9, 8, 1, 0, strength});
            refusedConstrain(RefusedTest::full, -2, new int[] {23, 2, 99, 1, strength});
        }
        refusedConstrain(RefusedTest::full, -2, new int[] {4, 5, 1, 1, 0});
        refusedConstrain(RefusedTest::full, -2, new int[] {1, 0, 1, 0, 0});
    }

    private static void constrainWithConflict() {
        CHECK.part("promise 3, refused (-3)");
        int[][] conflicts = {
            {4, 5, 1, 1, 0}, {7, 6, -1, 0, 0}, {1, 0, 19, 0, 0}, {1, 0, 21, 1, 0}, {3, 2, 13, 0, 0}, {2, 3, -11, 1, 0},
            {4, 0, 1, 0, 0}, {0, 4, -1, 1, 0}, {17, 1, 0, 0, 0}, {17, 0, 99, 1, 0}, {16, 0, 20, 1, 0},
        };
        for (int[] call : conflicts) {
            refusedConstrain(RefusedTest::busy, -3, call);
        }
    }

    private static void remove() {
        CHECK.part("promise 4, refused");
        int[] none = {-1, 2, 5, 15, 16, MOST, LEAST};
        for (int constraint : none) {
            same(RefusedTest::busy, "remove(" + constraint + ")", view -> view.remove(constraint), false);
        }
        same(RefusedTest::full, "remove(16)", view -> view.remove(16), false);
    }

    private static void refusedSuggest(Supplier<DamageView> state, int edge, int place) {
        same(state, "suggest(" + edge + ", " + place + ")", view -> view.suggest(edge, place), false);
    }

    private static void suggest() {
        CHECK.part("promise 5, refused");
        int[] noEdges = {-1, 20, 24, MOST, LEAST};
        for (int edge : noEdges) {
            refusedSuggest(RefusedTest::busy, edge, 3);
        }
        int[] tooFar = {-100, 100, MOST, LEAST};
        for (int place : tooFar) {
            refusedSuggest(RefusedTest::busy, 9, place);
            refusedSuggest(RefusedTest::full, 23, place);
        }
        refusedSuggest(RefusedTest::full, 24, 0);
    }

    private static void refusedResize(int width, int height) {
        same(RefusedTest::busy, "resize(" + width + ", " + height + ")", view -> view.resize(width, height), false);
    }

    private static void resize() {
        CHECK.part("promise 6, refused");
        int[] wrongWidths = {0, 25, -1, MOST, LEAST};
        for (int width : wrongWidths) {
            refusedResize(width, 12);
            refusedResize(width, 5);
        }
        int[] wrongHeights = {0, 17, -1, MOST, LEAST};
        for (int height : wrongHeights) {
            refusedResize(20, height);
            refusedResize(5, height);
        }
        CHECK.part("promise 6, conflict");
        Supplier<DamageView> tight = () -> {
            DamageView view = busy();
            view.constrain(17, 4, 8, 1, 0);
            view.constrain(3, 7, 2, 1, 0);
            view.constrain(6, 2, 4, 1, 0);
            view.suggest(16, 11);
            return view;
        };
        same(tight, "resize(10, 12)", view -> view.resize(10, 12), false);
        same(tight, "resize(10, 6)", view -> view.resize(10, 6), false);
        same(tight, "resize(20, 5)", view -> view.resize(20, 5), false);
        same(tight, "resize(24, 1)", view -> view.resize(24, 1), false);
        same(tight, "resize(1, 1)", view -> view.resize(1, 1), false);
        CHECK.due("resize(11, 6), as small as can be", tight.get().resize(11, 6), true);
    }

    private static void hide() {
        CHECK.part("promise 9, refused");
        int[] none = {-1, 0, 5, 6, MOST, LEAST};
        for (int box : none) {
            same(RefusedTest::busy, "hide(" + box + ", true)", view -> view.hide(box, true), false);
            same(RefusedTest::busy, "hide(" + box + ", false)", view -> view.hide(box, false), false);
        }
        for (int box = 1; box < 4; box++) {
            int shown = box;
            same(RefusedTest::busy, "hide(" + box + ", false)", view -> view.hide(shown, false), false);
        }
        same(RefusedTest::busy, "hide(4, true) again", view -> view.hide(4, true), false);
    }

    private static void raise() {
        CHECK.part("promise 10, refused");
        int[] none = {-1, 0, 5, 6, MOST, LEAST};
        for (int box : none) {
            same(RefusedTest::busy, "raise(" + box + ")", view -> view.raise(box), false);
        }
        same(RefusedTest::busy, "raise(3), the last", view -> view.raise(3), false);
        same(RefusedTest::busy, "raise(2), an only child", view -> view.raise(2), false);
        same(RefusedTest::full, "raise(5), an only child", view -> view.raise(5), false);
    }

    private static void press() {
        CHECK.part("promise 12, refused");
        int[][] points = {{0, 0}, {9, 9}, {4, 4}, {13, 2}, {2, 2}, {-1, 0}, {24, 16}, {MOST, LEAST}};
        for (int[] point : points) {
            String call = "press(" + point[0] + ", " + point[1] + ")";
            same(RefusedTest::busy, call, view -> view.press(point[0], point[1]), -2);
            same(RefusedTest::full, call, view -> view.press(point[0], point[1]), -2);
        }
    }

    private static void release() {
        CHECK.part("promise 13, refused");
        int[][] points = {{0, 0}, {9, 9}, {4, 4}, {13, 2}, {2, 2}, {-1, 0}, {24, 16}, {LEAST, MOST}};
        for (int[] point : points) {
            String call = "release(" + point[0] + ", " + point[1] + ")";
            same(RefusedTest::atRest, call, view -> view.release(point[0], point[1]), -2);
            same(RefusedTest::withNoneThatCan, call, view -> view.release(point[0], point[1]), -2);
        }
    }

    private static void stepAndKey() {
        CHECK.part("promises 14 and 15, with none");
        same(RefusedTest::withNoneThatCan, "step(false)", view -> view.step(false), -1);
        same(RefusedTest::withNoneThatCan, "step(true)", view -> view.step(true), -1);
        same(RefusedTest::withNoneThatCan, "key()", view -> view.key(), -1);
    }

    private static void asking() {
        CHECK.part("promises 7, 8, 11, 17 and 20, of none");
        int[] far = {-1, 24, MOST, LEAST};
        for (int number : far) {
            same(RefusedTest::busy, "place(" + number + ")", view -> view.place(number), 0);
            same(RefusedTest::busy, "error(" + number + ")", view -> view.error(number), -1);
            same(RefusedTest::busy, "count(" + number + ")", view -> view.count(number), -1);
            same(RefusedTest::busy, "hit(" + number + ", 0)", view -> view.hit(number, 0), -1);
            same(RefusedTest::busy, "hit(0, " + number + ")", view -> view.hit(0, number), -1);
            same(RefusedTest::busy, "pixel(" + number + ", 0)", view -> view.pixel(number, 0), -1);
            same(RefusedTest::busy, "pixel(0, " + number + ")", view -> view.pixel(0, number), -1);
        }
        same(RefusedTest::busy, "place(20)", view -> view.place(20), 0);
        same(RefusedTest::busy, "error(2)", view -> view.error(2), -1);
        same(RefusedTest::busy, "count(5)", view -> view.count(5), -1);
    }
}

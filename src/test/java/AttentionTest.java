/** Promises 12 (press), 13 (release), 14 (step), 15 (key), 16 (attention) and 17 (count). */
public final class AttentionTest {
    private static final Check CHECK = new Check();

    public static void main(String[] args) {
        press();
        pressOnNothing();
        pressRefused();
        pressTakesTheFocusAway();
        pressAfterAPressOnNothing();
        release();
        releaseElsewhere();
        releaseWhereItIsThen();
        releaseOfABoxWithoutFocus();
        releaseRefused();
        step();
        stepOverThoseThatCannot();
        stepRoundTheEnds();
        stepWhilePressed();
        key();
        keyOfAFocusThatIsLost();
        attentionEndsWithTheArea();
        attentionOfEachPair();
        count();
        countSixDeep();
        CHECK.end();
    }

    /** Box 1 is a panel, 2 a button, 3 a switch, 4 a switch within the button; 1 to 3 stand side by side. */
    private static DamageView sideBySide() {
        DamageView view = new DamageView(24, 16);
        view.box(0, 0);
        view.box(1, 0);
        view.box(2, 0);
        view.box(2, 2);
        Check.spread(view, 1, 1, 5, 1, 5);
        Check.spread(view, 2, 6, 10, 1, 5);
        Check.spread(view, 3, 11, 15, 1, 5);
        Check.spread(view, 4, 8, 10, 3, 5);
        view.paint();
        return view;
    }

    private static void press() {
        CHECK.part("promise 12");
        DamageView view = sideBySide();
        CHECK.due("press(6, 1)", view.press(6, 1), 2);
        CHECK.due("attention()", view.attention(), 3 + 8 * 3);
        CHECK.due("damage()", view.damage(), 16);
        CHECK.due("paint()", view.paint(), 12);
        CHECK.due("pixel(6, 1)", view.pixel(6, 1), 3 + 16 + 32);
        CHECK.due("pixel(8, 3)", view.pixel(8, 3), 5);
        CHECK.due("count(2)", view.count(2), 0);
        view.release(0, 0);
        CHECK.due("press(14, 4)", view.press(14, 4), 3);
        CHECK.due("attention()", view.attention(), 4 + 8 * 4);
        view.paint();
        CHECK.due("pixel(6, 1)", view.pixel(6, 1), 3);
        CHECK.due("pixel(14, 4)", view.pixel(14, 4), 4 + 16 + 32);
    }

    private static void pressOnNothing() {
        CHECK.part("promise 12, on what can't");
        DamageView view = sideBySide();
        view.step(false);
        CHECK.due("press(1, 1), the panel", view.press(1, 1), 1);
        CHECK.due("attention()", view.attention(), 0);
        view.step(false);
        CHECK.due("press(0, 0), the window", view.press(0, 0), 0);
        CHECK.due("attention()", view.attention(), 0);
        view.step(false);
        CHECK.due("press(24, 0)", view.press(24, 0), -1);
        CHECK.due("attention()", view.attention(), 0);
        view.step(false);
        CHECK.due("press(MIN, MAX)", view.press(Integer.MIN_VALUE, Integer.MAX_VALUE), -1);
        CHECK.due("attention()", view.attention(), 0);
    }

    private static void pressRefused() {
        CHECK.part("promise 12, refused");
        DamageView view = sideBySide();
        view.press(6, 1);
        view.paint();
        CHECK.due("press(6, 1) again", view.press(6, 1), -2);
        CHECK.due("press(11, 1)", view.press(11, 1), -2);
        CHECK.due("press(99, 99)", view.press(99, 99), -2);
        CHECK.due("attention()", view.attention(), 3 + 8 * 3);
        CHECK.due("damage()", view.damage(), 0);
    }

    private static void release() {
        CHECK.part("promise 13");
        DamageView view = sideBySide();
        view.press(6, 1);
        CHECK.due("release(7, 2)", view.release(7, 2), 2);
        CHECK.due("attention()", view.attention(), 3);
        CHECK.due("count(2)", view.count(2), 1);
        view.press(11, 1);
        view.paint();
        CHECK.due("release(14, 4)", view.release(14, 4), 3);
        CHECK.due("damage()", view.damage(), 16);
        view.paint();
        CHECK.due("pixel(11, 1), on", view.pixel(11, 1), 4 + 8 + 16);
        view.press(11, 1);
        view.release(11, 1);
        view.paint();
        CHECK.due("pixel(11, 1), off", view.pixel(11, 1), 4 + 16);
    }

    private static void releaseElsewhere() {
        CHECK.part("promise 13, elsewhere");
        DamageView view = sideBySide();
        view.press(6, 1);
        CHECK.due("release(8, 3), its child", view.release(8, 3), -1);
        CHECK.due("attention()", view.attention(), 3);
        view.press(8, 3);
        CHECK.due("release(6, 1), its parent", view.release(6, 1), -1);
        view.press(11, 1);
        CHECK.due("release(-1, 0)", view.release(-1, 0), -1);
        CHECK.due("attention()", view.attention(), 4);
        CHECK.due("count(0)", view.count(0), 0);
        view.press(11, 1);
        view.step(false);
        CHECK.due("focus has moved on", view.attention(), 5 + 8 * 4);
        CHECK.due("release(11, 1)", view.release(11, 1), 3);
        CHECK.due("attention()", view.attention(), 5);
    }

    private static void releaseRefused() {
        CHECK.part("promise 13, refused");
        DamageView view = sideBySide();
        CHECK.due("release(6, 1)", view.release(6, 1), -2);
        view.press(1, 1);
        CHECK.due("release(1, 1): a panel is not pressed", view.release(1, 1), -2);
        view.press(6, 1);
        view.release(6, 1);
        CHECK.due("release(6, 1) again", view.release(6, 1), -2);
        CHECK.due("release(MAX, MIN)", view.release(Integer.MAX_VALUE, Integer.MIN_VALUE), -2);
        CHECK.due("count(2)", view.count(2), 1);
    }

    private static void step() {
        CHECK.part("promise 14");
        DamageView view = sideBySide();
        int[] forth = {2, 3, 4, 2};
        for (int box : forth) {
            CHECK.due("step(false)", view.step(false), box);
            CHECK.due("attention()", view.attention(), box + 1);
        }
        int[] back = {4, 3, 2, 4};
        for (int box : back) {
            CHECK.due("step(true)", view.step(true), box);
        }
        view.press(0, 0);
        CHECK.due("step(true) with no focus", view.step(true), 4);
        view.paint();
        view.step(true);
        CHECK.due("damage()", view.damage(), 20);
    }

    private static void stepOverThoseThatCannot() {
        CHECK.part("promise 14, who can");
        DamageView view = sideBySide();
        view.hide(3, true);
        CHECK.due("step(false)", view.step(false), 2);
        CHECK.due("step(false), past the hidden one", view.step(false), 4);
        view.hide(4, true);
        CHECK.due("step(false)", view.step(false), 2);
        view.paint();
        CHECK.due("step(false), the only one", view.step(false), 2);
        CHECK.due("step(true), the only one", view.step(true), 2);
        CHECK.due("damage()", view.damage(), 0);
        view.suggest(9, 6);
        CHECK.due("step(false), an empty area", view.step(false), -1);
        CHECK.due("step(true), an empty area", view.step(true), -1);
        view.hide(3, false);
        view.box(1, 0);
        CHECK.due("step(true), a new box has no area", view.step(true), 3);
        view.hide(3, true);
        Check.spread(view, 5, 20, 22, 9, 11);
        CHECK.due("step(false), only the last box", view.step(false), 5);
        DamageView bare = new DamageView(3, 3);
        CHECK.due("step(false), window alone", bare.step(false), -1);
        CHECK.due("step(true), window alone", bare.step(true), -1);
    }

    private static void key() {
        CHECK.part("promise 15");
        DamageView view = sideBySide();
        CHECK.due("key() with no focus", view.key(), -1);
        CHECK.due("damage()", view.damage(), 0);
        view.step(false);
        view.paint();
        CHECK.due("key() on a button", view.key(), 2);
        CHECK.due("damage(): the colour stays", view.damage(), 0);
        CHECK.due("count(2)", view.count(2), 1);
        view.step(false);
        view.paint();
        CHECK.due("key() on a switch", view.key(), 3);
        CHECK.due("damage()", view.damage(), 16);
        view.paint();
        CHECK.due("pixel(11, 1)", view.pixel(11, 1), 4 + 8 + 16);
        view.key();
        CHECK.due("paint()", view.paint(), 16);
        CHECK.due("pixel(11, 1)", view.pixel(11, 1), 4 + 16);
    }

    private static void attentionEndsWithTheArea() {
        CHECK.part("promise 16");
        DamageView view = sideBySide();
        view.press(8, 3);
        CHECK.due("attention()", view.attention(), 5 + 8 * 5);
        view.hide(2, true);
        CHECK.due("attention(), its parent hidden", view.attention(), 0);
        view.hide(2, false);
        view.press(8, 3);
        view.suggest(11, 3);
        CHECK.due("attention(), squeezed", view.attention(), 0);
        view.press(11, 1);
        view.step(true);
        CHECK.due("attention(), two boxes", view.attention(), 3 + 8 * 4);
        CHECK.due("resize(11, 16)", view.resize(11, 16), true);
        CHECK.due("attention(), one out of the window", view.attention(), 3);
        CHECK.due("release(6, 1)", view.release(6, 1), -2);
    }

    private static void count() {
        CHECK.part("promise 17");
        DamageView view = sideBySide();
        view.press(8, 3);
        view.release(8, 3);
        view.key();
        view.press(6, 1);
        view.release(6, 1);
        int[] counts = {3, 0, 3, 0, 2};
        for (int box = 0; box < counts.length; box++) {
            CHECK.due("count(" + box + ")", view.count(box), counts[box]);
        }
        CHECK.due("count(5)", view.count(5), -1);
        CHECK.due("count(-1)", view.count(-1), -1);
        CHECK.due("count(MAX)", view.count(Integer.MAX_VALUE), -1);
        CHECK.due("count(MIN)", view.count(Integer.MIN_VALUE), -1);
    }

    private static void countSixDeep() {
        CHECK.part("promise 17, each box in the one before");
        DamageView view = new DamageView(24, 16);
        for (int box = 1; box <= 5; box++) {
            view.box(2, box - 1);
            Check.spread(view, box, 0, 24 - box, 0, 16);
        }
        view.press(0, 0);
        CHECK.due("release(0, 0)", view.release(0, 0), 5);
        for (int box = 0; box <= 5; box++) {
            CHECK.due("count(" + box + ")", view.count(box), 1);
        }
        view.paint();
        CHECK.due("pixel(0, 0), on", view.pixel(0, 0), 6 + 8 + 16);
        CHECK.due("pixel(19, 0): a switch that it is in stays off", view.pixel(19, 0), 5);
    }

    private static void pressTakesTheFocusAway() {
        CHECK.part("promise 12, \"there is no FOCUS then\"");
        int[][] points = {{1, 1}, {0, 0}, {23, 15}, {24, 15}, {-1, -1}};
        int[] hits = {1, 0, 0, -1, -1};
        for (int i = 0; i < points.length; i++) {
            DamageView view = sideBySide();
            view.step(true);
            view.step(true);
            view.paint();
            CHECK.due("press", view.press(points[i][0], points[i][1]), hits[i]);
            CHECK.due("attention()", view.attention(), 0);
            CHECK.due("damage() of the focus lost", view.damage(), 16);
            CHECK.due("paint()", view.paint(), 16);
            CHECK.due("pixel(11, 1)", view.pixel(11, 1), 4);
            CHECK.due("step(false), from the first again", view.step(false), 2);
        }
    }

    private static void pressAfterAPressOnNothing() {
        CHECK.part("promise 12, none is pressed by a press on what can't");
        DamageView view = sideBySide();
        CHECK.due("press(1, 1)", view.press(1, 1), 1);
        CHECK.due("press(-1, 0)", view.press(-1, 0), -1);
        CHECK.due("press(6, 1)", view.press(6, 1), 2);
        CHECK.due("press(-1, 0)", view.press(-1, 0), -2);
        view.hide(2, true);
        CHECK.due("press(6, 1), the pressed one is gone", view.press(6, 1), 0);
    }

    private static void releaseWhereItIsThen() {
        CHECK.part("promise 13, \"if it is the one that is hit\"");
        DamageView view = sideBySide();
        view.press(11, 1);
        Check.spread(view, 1, 11, 15, 1, 5);
        view.raise(1);
        CHECK.due("release(11, 1), covered meanwhile", view.release(11, 1), -1);
        CHECK.due("count(3)", view.count(3), 0);
        view.raise(3);
        view.press(11, 1);
        view.suggest(13, 20);
        view.suggest(12, 18);
        CHECK.due("release(11, 1), moved away meanwhile", view.release(11, 1), -1);
        view.press(19, 4);
        view.suggest(12, 11);
        CHECK.due("release(12, 1), where it is meanwhile", view.release(12, 1), 3);
        CHECK.due("count(3)", view.count(3), 1);
        view.press(11, 1);
        CHECK.due("release(24, 16)", view.release(24, 16), -1);
        CHECK.due("release(11, 1), too late", view.release(11, 1), -2);
        CHECK.due("count(0)", view.count(0), 1);
    }

    private static void releaseOfABoxWithoutFocus() {
        CHECK.part("promise 13, the focus stays where it is");
        DamageView view = sideBySide();
        view.press(6, 1);
        view.step(false);
        view.paint();
        CHECK.due("release(0, 0)", view.release(0, 0), -1);
        CHECK.due("attention()", view.attention(), 4);
        CHECK.due("damage() of the pressed one", view.damage(), 16);
        CHECK.due("paint(), but for its child", view.paint(), 12);
        CHECK.due("pixel(6, 1)", view.pixel(6, 1), 3);
    }

    private static void stepRoundTheEnds() {
        CHECK.part("promise 14, \"after the last (before the first) round to the first (last) one\"");
        DamageView view = new DamageView(24, 16);
        for (int box = 1; box <= 5; box++) {
            view.box(1 + box % 2, 0);
            Check.spread(view, box, box, box + 1, 0, 1);
        }
        CHECK.due("step(true), no focus", view.step(true), 5);
        CHECK.due("step(false), after the last", view.step(false), 1);
        CHECK.due("step(true), before the first", view.step(true), 5);
        view.hide(5, true);
        CHECK.due("attention()", view.attention(), 0);
        CHECK.due("step(true), no focus", view.step(true), 4);
        view.hide(1, true);
        CHECK.due("step(false), after the last that can", view.step(false), 2);
        CHECK.due("step(true), before the first that can", view.step(true), 4);
        view.raise(2);
        CHECK.due("step(true): by number, not by order", view.step(true), 3);
        view.press(-1, 0);
        CHECK.due("step(false), no focus", view.step(false), 2);
        for (int box = 2; box <= 4; box++) {
            view.hide(box, true);
        }
        CHECK.due("step(false), none can", view.step(false), -1);
        CHECK.due("step(true), none can", view.step(true), -1);
        CHECK.due("attention()", view.attention(), 0);
    }

    private static void stepWhilePressed() {
        CHECK.part("promise 14, while one is pressed");
        DamageView view = sideBySide();
        view.press(6, 1);
        CHECK.due("step(true)", view.step(true), 4);
        CHECK.due("attention()", view.attention(), 5 + 8 * 3);
        CHECK.due("step(false)", view.step(false), 2);
        CHECK.due("attention()", view.attention(), 3 + 8 * 3);
        view.step(false);
        CHECK.due("release(6, 1)", view.release(6, 1), 2);
        CHECK.due("attention()", view.attention(), 4);
        CHECK.due("count(2)", view.count(2), 1);
        CHECK.due("count(3)", view.count(3), 0);
    }

    private static void keyOfAFocusThatIsLost() {
        CHECK.part("promise 15, \"-1 if there is none\"");
        DamageView view = sideBySide();
        view.press(11, 1);
        CHECK.due("key(), also while it is pressed", view.key(), 3);
        view.paint();
        CHECK.due("pixel(11, 1)", view.pixel(11, 1), 4 + 8 + 16 + 32);
        view.hide(3, true);
        CHECK.due("key(), hidden", view.key(), -1);
        view.hide(3, false);
        CHECK.due("key(), shown again", view.key(), -1);
        CHECK.due("count(3)", view.count(3), 1);
        CHECK.due("count(0)", view.count(0), 1);
        view.paint();
        CHECK.due("pixel(11, 1), on still", view.pixel(11, 1), 4 + 8);
    }

    private static void attentionOfEachPair() {
        CHECK.part("promise 16, \"each with 1 added (0 for none)\"");
        for (int pressed = 1; pressed <= 5; pressed++) {
            DamageView view = new DamageView(24, 16);
            for (int box = 1; box <= 5; box++) {
                view.box(1, 0);
                Check.spread(view, box, box, box + 1, 0, 1);
            }
            view.press(pressed, 0);
            for (int steps = 0; steps < 5; steps++) {
                int focus = (pressed - 1 + steps) % 5 + 1;
                CHECK.due("attention()", view.attention(), focus + 1 + 8 * (pressed + 1));
                view.step(false);
            }
            view.step(false);
            view.hide(pressed % 5 + 1, true);
            CHECK.due("attention(), no focus", view.attention(), 8 * (pressed + 1));
            view.release(-1, 0);
            CHECK.due("attention(), none", view.attention(), 0);
        }
    }
}

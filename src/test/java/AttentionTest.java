/** Promises 12 (press), 13 (release), 14 (step), 15 (key), 16 (attention) and 17 (count). */
public final class AttentionTest {
    private static final Check CHECK = new Check();

    public static void main(String[] args) {
        press();
        pressOnNothing();
        pressRefused();
        release();
        releaseElsewhere();
        releaseRefused();
        step();
        stepOverThoseThatCannot();
        key();
        attentionEndsWithTheArea();
        count();
        countSixDeep();
        CHECK.end();
    }

    /** Box 1 is a panel, 2 a button, 3 a switch, 4 a switch within the button; 1 to 3 stand side by side. */
    private static DamageView sideBySide() {
        DamageView view = new DamageView(24, 16);
        view.box(0, 0);
        view.box(1, 0);
        view.box(2, 0);
        view.box(2, 2);
        Check.spread(view, 1, 1, 5, 1, 5);
        Check.spread(view, 2, 6, 10, 1, 5);
        Check.spread(view, 3, 11, 15, 1, 5);
        Check.spread(view, 4, 8, 10, 3, 5);
        view.paint();
        return view;
    }

    private static void press() {
        CHECK.part("promise 12");
        DamageView view = sideBySide();
        CHECK.due("press(6, 1)", view.press(6, 1), 2);
        CHECK.due("attention()", view.attention(), 3 + 8 * 3);
        CHECK.due("damage()", view.damage(), 16);
        CHECK.due("paint()", view.paint(), 12);
        CHECK.due("pixel(6, 1)", view.pixel(6, 1), 3 + 16 + 32);
        CHECK.due("pixel(8, 3)", view.pixel(8, 3), 5);
        CHECK.due("count(2)", view.count(2), 0);
        view.release(0, 0);
        CHECK.due("press(14, 4)", view.press(14, 4), 3);
        CHECK.due("attention()", view.attention(), 4 + 8 * 4);
        view.paint();
        CHECK.due("pixel(6, 1)", view.pixel(6, 1), 3);
        CHECK.due("pixel(14, 4)", view.pixel(14, 4), 4 + 16 + 32);
    }

    private static void pressOnNothing() {
        CHECK.part("promise 12, on what can't");
        DamageView view = sideBySide();
        view.step(false);
        CHECK.due("press(1, 1), the panel", view.press(1, 1), 1);
        CHECK.due("attention()", view.attention(), 0);
        view.step(false);
        CHECK.due("press(0, 0), the window", view.press(0, 0), 0);
        CHECK.due("attention()", view.attention(), 0);
        view.step(false);
        CHECK.due("press(24, 0)", view.press(24, 0), -1);
        CHECK.due("attention()", view.attention(), 0);
        view.step(false);
        CHECK.due("press(MIN, MAX)", view.press(Integer.MIN_VALUE, Integer.MAX_VALUE), -1);
        CHECK.due("attention()", view.attention(), 0);
    }

    private static void pressRefused() {
        CHECK.part("promise 12, refused");
        DamageView view = sideBySide();
        view.press(6, 1);
        view.paint();
        CHECK.due("press(6, 1) again", view.press(6, 1), -2);
        CHECK.due("press(11, 1)", view.press(11, 1), -2);
        CHECK.due("press(99, 99)", view.press(99, 99), -2);
        CHECK.due("attention()", view.attention(), 3 + 8 * 3);
        CHECK.due("damage()", view.damage(), 0);
    }

    private static void release() {
        CHECK.part("promise 13");
        DamageView view = sideBySide();
        view.press(6, 1);
        CHECK.due("release(7, 2)", view.release(7, 2), 2);
        CHECK.due("attention()", view.attention(), 3);
        CHECK.due("count(2)", view.count(2), 1);
        view.press(11, 1);
        view.paint();
        CHECK.due("release(14, 4)", view.release(14, 4), 3);
        CHECK.due("damage()", view.damage(), 16);
        view.paint();
        CHECK.due("pixel(11, 1), on", view.pixel(11, 1), 4 + 8 + 16);
        view.press(11, 1);
        view.release(11, 1);
        view.paint();
        CHECK.due("pixel(11, 1), off", view.pixel(11, 1), 4 + 16);
    }

    private static void releaseElsewhere() {
        CHECK.part("promise 13, elsewhere");
        DamageView view = sideBySide();
        view.press(6, 1);
        CHECK.due("release(8, 3), its child", view.release(8, 3), -1);
        CHECK.due("attention()", view.attention(), 3);
        view.press(8, 3);
        CHECK.due("release(6, 1), its parent", view.release(6, 1), -1);
        view.press(11, 1);
        CHECK.due("release(-1, 0)", view.release(-1, 0), -1);
        CHECK.due("attention()", view.attention(), 4);
        CHECK.due("count(0)", view.count(0), 0);
        view.press(11, 1);
        view.step(false);
        CHECK.due("focus has moved on", view.attention(), 5 + 8 * 4);
        CHECK.due("release(11, 1)", view.release(11, 1), 3);
        CHECK.due("attention()", view.attention(), 5);
    }

    private static void releaseRefused() {
        CHECK.part("promise 13, refused");
        DamageView view = sideBySide();
        CHECK.due("release(6, 1)", view.release(6, 1), -2);
        view.press(1, 1);
        CHECK.due("release(1, 1): a panel is not pressed", view.release(1, 1), -2);
        view.press(6, 1);
        view.release(6, 1);
        CHECK.due("release(6, 1) again", view.release(6, 1), -2);
        CHECK.due("release(MAX, MIN)", view.release(Integer.MAX_VALUE, Integer.MIN_VALUE), -2);
        CHECK.due("count(2)", view.count(2), 1);
    }

    private static void step() {
        CHECK.part("promise 14");
        DamageView view = sideBySide();
        int[] forth = {2, 3, 4, 2};
        for (int box : forth) {
            CHECK.due("step(false)", view.step(false), box);
            CHECK.due("attention()", view.attention(), box + 1);
        }
        int[] back = {4, 3, 2, 4};
        for (int box : back) {
            CHECK.due("step(true)", view.step(true), box);
        }
        view.press(0, 0);
        CHECK.due("step(true) with no focus", view.step(true), 4);
        view.paint();
        view.step(true);
        CHECK.due("damage()", view.damage(), 20);
    }

    private static void stepOverThoseThatCannot() {
        CHECK.part("promise 14, who can");
        DamageView view = sideBySide();
        view.hide(3, true);
        CHECK.due("step(false)", view.step(false), 2);
        CHECK.due("step(false), past the hidden one", view.step(false), 4);
        view.hide(4, true);
        CHECK.due("step(false)", view.step(false), 2);
        view.paint();
        CHECK.due("step(false), the only one", view.step(false), 2);
        CHECK.due("step(true), the only one", view.step(true), 2);
        CHECK.due("damage()", view.damage(), 0);
        view.suggest(9, 6);
        CHECK.due("step(false), an empty area", view.step(false), -1);
        CHECK.due("step(true), an empty area", view.step(true), -1);
        view.hide(3, false);
        view.box(1, 0);
        CHECK.due("step(true), a new box has no area", view.step(true), 3);
        view.hide(3, true);
        Check.spread(view, 5, 20, 22, 9, 11);
        CHECK.due("step(false), only the last box", view.step(false), 5);
        DamageView bare = new DamageView(3, 3);
        CHECK.due("step(false), window alone", bare.step(false), -1);
        CHECK.due("step(true), window alone", bare.step(true), -1);
    }

    private static void key() {
        CHECK.part("promise 15");
        DamageView view = sideBySide();
        CHECK.due("key() with no focus", view.key(), -1);
        CHECK.due("damage()", view.damage(), 0);
        view.step(false);
        view.paint();
        CHECK.due("key() on a button", view.key(), 2);
        CHECK.due("damage(): the colour stays", view.damage(), 0);
        CHECK.due("count(2)", view.count(2), 1);
        view.step(false);
        view.paint();
        CHECK.due("key() on a switch", view.key(), 3);
        CHECK.due("damage()", view.damage(), 16);
        view.paint();
        CHECK.due("pixel(11, 1)", view.pixel(11, 1), 4 + 8 + 16);
        view.key();
        CHECK.due("paint()", view.paint(), 16);
        CHECK.due("pixel(11, 1)", view.pixel(11, 1), 4 + 16);
    }

    private static void attentionEndsWithTheArea() {
        CHECK.part("promise 16");
        DamageView view = sideBySide();
        view.press(8, 3);
        CHECK.due("attention()", view.attention(), 5 + 8 * 5);
        view.hide(2, true);
        CHECK.due("attention(), its parent hidden", view.attention(), 0);
        view.hide(2, false);
        view.press(8, 3);
        view.suggest(11, 3);
        CHECK.due("attention(), squeezed", view.attention(), 0);
        view.press(11, 1);
        view.step(true);
        CHECK.due("attention(), two boxes", view.attention(), 3 + 8 * 4);
        CHECK.due("resize(11, 16)", view.resize(11, 16), true);
        CHECK.due("attention(), one out of the window", view.attention(), 3);
        CHECK.due("release(6, 1)", view.release(6, 1), -2);
    }

    private static void count() {
        CHECK.part("promise 17");
        DamageView view = sideBySide();
        view.press(8, 3);
        view.release(8, 3);
        view.key();
        view.press(6, 1);
        view.release(6, 1);
        int[] counts = {3, 0, 3, 0, 2};
        for (int box = 0; box < counts.length; box++) {
            CHECK.due("count(" + box + ")", view.count(box), counts[box]);
        }
        CHECK.due("count(5)", view.count(5), -1);
        CHECK.due("count(-1)", view.count(-1), -1);
        CHECK.due("count(MAX)", view.count(Integer.MAX_VALUE), -1);
        CHECK.due("count(MIN)", view.count(Integer.MIN_VALUE), -1);
    }

    private static void countSixDeep() {
        CHECK.part("promise 17, each box in the one before");
        DamageView view = new DamageView(24, 16);
        for (int box = 1; box <= 5; box++) {
            view.box(2, box - 1);
            Check.spread(view, box, 0, 24 - box, 0, 16);
        }
        view.press(0, 0);
        CHECK.due("release(0, 0)", view.release(0, 0), 5);
        for (int box = 0; box <= 5; box++) {
            CHECK.due("count(" + box + ")", view.count(box), 1);
        }
        view.paint();
        CHECK.due("pixel(0, 0), on", view.pixel(0, 0), 6 + 8 + 16);
        CHECK.due("pixel(19, 0): a switch that it is in stays off", view.pixel(19, 0), 5);
    }
}

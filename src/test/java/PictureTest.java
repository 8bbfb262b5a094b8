/** Promises 18 (damage), 19 (paint) and 20 (pixel). */
public final class PictureTest {
    private static final Check CHECK = new Check();

    public static void main(String[] args) {
        damageAtFirst();
        damageOfAreas();
        damageOfHiddenAndClipped();
        damageAddsUp();
        damageOfEveryPoint();
        damageOfChildrenOfAMovedBox();
        paint();
        paintOfResize();
        paintIsOfDamagedPointsAlone();
        paintOfAChangeAndBack();
        pixel();
        pixelsAroundTheScreen();
        CHECK.end();
    }

    private static DamageView withPanel() {
        DamageView view = new DamageView(10, 8);
        view.box(0, 0);
        Check.spread(view, 1, 1, 5, 1, 5);
        view.paint();
        return view;
    }

    private static void damageAtFirst() {
        CHECK.part("promise 18, at first");
        CHECK.due("damage() of 24 x 16", new DamageView(24, 16).damage(), 384);
        CHECK.due("damage() of 1 x 1", new DamageView(1, 1).damage(), 1);
        CHECK.due("damage() of 10 x 8", new DamageView(10, 8).damage(), 80);
    }

    private static void damageOfAreas() {
        CHECK.part("promise 18, areas");
        DamageView view = withPanel();
        CHECK.due("damage()", view.damage(), 0);
        view.suggest(5, 7);
        CHECK.due("damage(), wider", view.damage(), 24);
        view.paint();
        view.suggest(4, 3);
        CHECK.due("damage(), narrower", view.damage(), 24);
        view.paint();
        view.constrain(4, 0, 7, 1, 0);
        CHECK.due("damage(), empty then", view.damage(), 16);
        view.paint();
        view.suggest(5, 7);
        CHECK.due("damage(), empty still", view.damage(), 0);
        view.suggest(6, 0);
        view.suggest(7, 9);
        CHECK.due("damage(), empty in another place", view.damage(), 0);
    }

    private static void damageOfHiddenAndClipped() {
        CHECK.part("promise 18, hidden and clipped");
        DamageView view = withPanel();
        view.hide(1, true);
        view.paint();
        view.suggest(5, 9);
        CHECK.due("damage(), hidden", view.damage(), 0);
        view.hide(1, false);
        CHECK.due("damage(), shown", view.damage(), 32);
        view.suggest(5, 10);
        view.paint();
        view.suggest(5, 50);
        CHECK.due("damage(), the same points", view.damage(), 0);
        view.box(0, 1);
        CHECK.due("damage(), a new box", view.damage(), 0);
        view.suggest(9, 3);
        view.suggest(11, 3);
        CHECK.due("damage(), clipped by the parent", view.damage(), 4);
    }

    private static void damageAddsUp() {
        CHECK.part("promise 18, adds up");
        DamageView view = withPanel();
        view.suggest(5, 6);
        view.suggest(5, 3);
        CHECK.due("damage(), of two calls", view.damage(), 20);
        view.suggest(7, 6);
        CHECK.due("damage(), of three calls", view.damage(), 22);
        view.suggest(7, 5);
        view.suggest(5, 5);
        CHECK.due("damage(), though all is as it was", view.damage(), 22);
        CHECK.due("paint()", view.paint(), 0);
        CHECK.due("damage()", view.damage(), 0);
    }

    private static void paint() {
        CHECK.part("promise 19");
        DamageView view = new DamageView(10, 8);
        CHECK.due("pixel(0, 0) before", view.pixel(0, 0), 0);
        CHECK.due("paint()", view.paint(), 80);
        CHECK.due("pixel(0, 0)", view.pixel(0, 0), 1);
        CHECK.due("paint() again", view.paint(), 0);
        view.box(1, 0);
        view.box(2, 0);
        Check.spread(view, 1, 1, 5, 1, 5);
        Check.spread(view, 2, 3, 7, 3, 7);
        CHECK.due("pixel(1, 1) before", view.pixel(1, 1), 1);
        CHECK.due("paint(), two boxes that overlap", view.paint(), 28);
        CHECK.due("pixel(1, 1)", view.pixel(1, 1), 2);
        CHECK.due("pixel(4, 4)", view.pixel(4, 4), 3);
        view.step(true);
        view.key();
        CHECK.due("pixel(4, 4) before", view.pixel(4, 4), 3);
        CHECK.due("paint(), focus and on", view.paint(), 16);
        CHECK.due("pixel(4, 4)", view.pixel(4, 4), 3 + 8 + 16);
        view.raise(1);
        CHECK.due("damage(), raised", view.damage(), 16);
        CHECK.due("paint(), raised", view.paint(), 4);
        CHECK.due("pixel(4, 4)", view.pixel(4, 4), 2);
    }

    private static void paintOfResize() {
        CHECK.part("promise 19, resize");
        DamageView view = withPanel();
        view.resize(4, 8);
        CHECK.due("damage()", view.damage(), 80);
        CHECK.due("paint()", view.paint(), 48);
        CHECK.due("pixel(4, 2)", view.pixel(4, 2), 0);
        CHECK.due("pixel(3, 2)", view.pixel(3, 2), 2);
        view.resize(5, 8);
        CHECK.due("damage()", view.damage(), 40);
        CHECK.due("paint()", view.paint(), 8);
        CHECK.due("pixel(4, 2)", view.pixel(4, 2), 2);
        CHECK.due("pixel(4, 7)", view.pixel(4, 7), 1);
    }

    private static void pixel() {
        CHECK.part("promise 20");
        DamageView view = withPanel();
        CHECK.due("pixel(1, 1)", view.pixel(1, 1), 2);
        CHECK.due("pixel(9, 7)", view.pixel(9, 7), 1);
        CHECK.due("pixel(10, 7), outside the window", view.pixel(10, 7), 0);
        CHECK.due("pixel(23, 15), the last one", view.pixel(23, 15), 0);
        CHECK.due("pixel(24, 0)", view.pixel(24, 0), -1);
        CHECK.due("pixel(0, 16)", view.pixel(0, 16), -1);
        CHECK.due("pixel(-1, 3)", view.pixel(-1, 3), -1);
        CHECK.due("pixel(3, -1)", view.pixel(3, -1), -1);
        CHECK.due("pixel(MAX, 0)", view.pixel(Integer.MAX_VALUE, 0), -1);
        CHECK.due("pixel(0, MIN)", view.pixel(0, Integer.MIN_VALUE), -1);
        view.hide(1, true);
        CHECK.due("pixel(1, 1), not painted yet", view.pixel(1, 1), 2);
        view.paint();
        CHECK.due("pixel(1, 1)", view.pixel(1, 1), 1);
    }

    private static void damageOfEveryPoint() {
        CHECK.part("promise 18, each point is counted once");
        DamageView view = new DamageView(24, 16);
        view.box(0, 0);
        Check.spread(view, 1, 0, 24, 0, 16);
        CHECK.due("damage(), all", view.damage(), 384);
        view.hide(1, true);
        view.resize(1, 1);
        CHECK.due("damage(), all still", view.damage(), 384);
        view.paint();
        CHECK.due("damage(), painted", view.damage(), 0);
        view.hide(1, false);
        CHECK.due("damage(), one", view.damage(), 1);
        view.resize(24, 16);
        CHECK.due("damage(), all again", view.damage(), 384);
    }

    private static void damageOfChildrenOfAMovedBox() {
        CHECK.part("promise 18, a child whose area changes with its parent's");
        DamageView view = withPanel();
        view.box(0, 1);
        Check.spread(view, 2, 3, 9, 3, 9);
        view.paint();
        view.suggest(5, 4);
        CHECK.due("damage()", view.damage(), 16);
        CHECK.due("paint()", view.paint(), 4);
        CHECK.due("pixel(3, 4)", view.pixel(3, 4), 3);
        CHECK.due("pixel(4, 4)", view.pixel(4, 4), 1);
        view.suggest(8, 0);
        CHECK.due("damage(), within the parent", view.damage(), 6);
        CHECK.due("paint()", view.paint(), 4);
    }

    private static void paintIsOfDamagedPointsAlone() {
        CHECK.part("promise 19, \"at all damaged points\"");
        DamageView view = withPanel();
        view.suggest(5, 6);
        CHECK.due("paint(): the points that are new", view.paint(), 4);
        CHECK.due("damage()", view.damage(), 0);
        CHECK.due("paint() again", view.paint(), 0);
        CHECK.due("pixel(5, 1)", view.pixel(5, 1), 2);
        CHECK.due("pixel(6, 1)", view.pixel(6, 1), 1);
        CHECK.due("pixel(10, 1), never painted", view.pixel(10, 1), 0);
        view.resize(12, 9);
        CHECK.due("paint(): the points that are new", view.paint(), 28);
        CHECK.due("pixel(10, 1)", view.pixel(10, 1), 1);
        CHECK.due("pixel(12, 1)", view.pixel(12, 1), 0);
    }

    private static void paintOfAChangeAndBack() {
        CHECK.part("promise 19, \"How many points of the frame have another colour then\"");
        DamageView view = new DamageView(10, 8);
        view.box(2, 0);
        Check.spread(view, 1, 1, 5, 1, 5);
        view.paint();
        view.step(false);
        view.key();
        view.key();
        view.press(9, 7);
        CHECK.due("damage()", view.damage(), 16);
        CHECK.due("paint(), as it was", view.paint(), 0);
        CHECK.due("damage()", view.damage(), 0);
        view.step(false);
        view.key();
        CHECK.due("paint(), two changes at once", view.paint(), 16);
        view.hide(1, true);
        CHECK.due("pixel(1, 1) until it is painted", view.pixel(1, 1), 2 + 8 + 16);
        CHECK.due("paint()", view.paint(), 16);
        CHECK.due("pixel(1, 1)", view.pixel(1, 1), 1);
    }

    private static void pixelsAroundTheScreen() {
        CHECK.part("promise 20, \"-1 if that isn't on the screen\"");
        DamageView view = new DamageView(24, 16);
        view.paint();
        for (int y = -1; y <= 16; y++) {
            for (int x = -1; x <= 24; x++) {
                boolean onScreen = x >= 0 && x <= 23 && y >= 0 && y <= 15;
                CHECK.due("pixel(" + x + ", " + y + ")", view.pixel(x, y), onScreen ? 1 : -1);
            }
        }
    }
}

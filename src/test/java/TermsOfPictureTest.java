/**
 * One test for each sentence of the document's "Terms" that names a boundary of
 * areas, picture, damage and attention.
 */
public final class TermsOfPictureTest {
    private static final Check CHECK = new Check();
    private static final int PANEL = 0;
    private static final int BUTTON = 1;
    private static final int SWITCH = 2;

    public static void main(String[] args) {
        lastPointsOfTheScreen();
        leftAndTopBelongToIt();
        emptyArea();
        alsoInTheAreaOfItsParent();
        whollyOutsideOfItsParent();
        hiddenBoxHasNoArea();
        hiddenAncestor();
        windowIsNeverHidden();
        inFrontOfItsParent();
        laterInTheOrderWithAllInIt();
        noBoxIsColourZero();
        coloursAddUp();
        frameAtFirst();
        areaBeforeOrThen();
        noOtherPoints();
        coveredPointsAreDamagedToo();
        colourOfAnEmptyArea();
        noneAtFirst();
        panelCannot();
        coveredButtonCan();
        noMoreAfterACall();
        lostAttentionStaysLost();
        onlyThatOneIsLost();
        lossChangesTheColour();
        activating();
        switchKeepsItsState();
        CHECK.end();
    }

    private static DamageView withBox(int kind) {
        DamageView view = new DamageView(20, 12);
        view.box(kind, 0);
        Check.spread(view, 1, 2, 6, 3, 8);
        view.paint();
        return view;
    }

    /** Each box is in the one before, all over the whole window. */
    private static DamageView nested(int kind, int boxes) {
        DamageView view = new DamageView(20, 12);
        for (int box = 1; box <= boxes; box++) {
            view.box(kind, box - 1);
            Check.spread(view, box, 0, 20, 0, 12);
        }
        view.paint();
        return view;
    }

    /** How many points of the row and of the column through (x, y) are hits of the box. */
    private static void spans(String when, DamageView view, int box, int x, int y, int width, int height) {
        int inRow = 0;
        for (int i = -2; i < 27; i++) {
            inRow += view.hit(i, y) == box ? 1 : 0;
        }
        int inColumn = 0;
        for (int i = -2; i < 19; i++) {
            inColumn += view.hit(x, i) == box ? 1 : 0;
        }
        CHECK.due("width of box " + box + ", " + when, inRow, width);
        CHECK.due("height of box " + box + ", " + when, inColumn, height);
    }

    private static void lastPointsOfTheScreen() {
        CHECK.part("\"(x, y) has x from 0 to 23, y from 0 to 15\"");
        DamageView view = new DamageView(24, 16);
        view.box(PANEL, 0);
        Check.spread(view, 1, 23, 99, 15, 99);
        CHECK.due("damage()", view.damage(), 384);
        CHECK.due("paint()", view.paint(), 384);
        CHECK.due("pixel(0, 0)", view.pixel(0, 0), 1);
        CHECK.due("pixel(23, 0)", view.pixel(23, 0), 1);
        CHECK.due("pixel(0, 15)", view.pixel(0, 15), 1);
        CHECK.due("pixel(23, 15)", view.pixel(23, 15), 2);
        CHECK.due("hit(23, 15)", view.hit(23, 15), 1);
        CHECK.due("hit(24, 15)", view.hit(24, 15), -1);
        CHECK.due("hit(23, 16)", view.hit(23, 16), -1);
        CHECK.due("pixel(24, 15)", view.pixel(24, 15), -1);
        CHECK.due("pixel(23, 16)", view.pixel(23, 16), -1);
        spans("in the corner", view, 1, 23, 15, 1, 1);
        spans("but for the box", view, 0, 23, 15, 23, 15);
    }

    private static void leftAndTopBelongToIt() {
        CHECK.part("\"left <= x < right, top <= y < bottom\"");
        DamageView view = withBox(PANEL);
        for (int y = 0; y < 12; y++) {
            for (int x = 0; x < 20; x++) {
                boolean inside = x >= 2 && x < 6 && y >= 3 && y < 8;
                CHECK.due("hit(" + x + ", " + y + ")", view.hit(x, y), inside ? 1 : 0);
                CHECK.due("pixel(" + x + ", " + y + ")", view.pixel(x, y), inside ? 2 : 1);
            }
        }
    }

    private static void emptyArea() {
        CHECK.part("an area is empty if right is left, or bottom is top");
        DamageView view = withBox(BUTTON);
        view.suggest(5, 2);
        spans("no width", view, 1, 2, 3, 0, 0);
        CHECK.due("step(false)", view.step(false), -1);
        view.suggest(5, 3);
        spans("one wide", view, 1, 2, 3, 1, 5);
        CHECK.due("step(false)", view.step(false), 1);
        view.suggest(7, 3);
        spans("no height", view, 1, 2, 3, 0, 0);
        CHECK.due("step(false)", view.step(false), -1);
        view.suggest(7, 4);
        spans("one high", view, 1, 2, 3, 1, 1);
        CHECK.due("step(false)", view.step(false), 1);
    }

    private static void alsoInTheAreaOfItsParent() {
        CHECK.part("\"that are also in the area of its parent\"");
        DamageView view = withBox(PANEL);
        view.box(PANEL, 1);
        Check.spread(view, 2, -99, 99, -99, 99);
        spans("as large as the parent", view, 2, 2, 3, 4, 5);
        spans("covered", view, 1, 2, 3, 0, 0);
        view.box(PANEL, 2);
        Check.spread(view, 3, 5, 99, 7, 99);
        spans("a grandchild", view, 3, 5, 7, 1, 1);
        CHECK.due("hit(5, 7)", view.hit(5, 7), 3);
        CHECK.due("hit(6, 7)", view.hit(6, 7), 0);
        view.suggest(4, -5);
        view.suggest(5, 40);
        spans("up to the window's right", view, 3, 5, 7, 15, 1);
        CHECK.due("hit(19, 7)", view.hit(19, 7), 3);
        CHECK.due("hit(20, 7)", view.hit(20, 7), -1);
    }

    private static void whollyOutsideOfItsParent() {
        CHECK.part("an area is empty if none of it is in the parent's");
        int[][] outside = {{6, 9, 3, 8}, {0, 2, 3, 8}, {2, 6, 8, 11}, {2, 6, 0, 3}, {10, 12, 10, 12}, {3, 3, 4, 7}};
        for (int[] sides : outside) {
            DamageView view = switchInSwitchInPanel(sides);
            CHECK.places(view, 2, sides);
            spans("outside", view, 2, sides[0], sides[2], 0, 0);
            spans("in a box outside", view, 3, sides[0], sides[2], 0, 0);
            spans("in a box outside", view, 3, 4, 5, 0, 0);
            CHECK.due("step(true)", view.step(true), -1);
        }
        DamageView view = switchInSwitchInPanel(5, 9, 7, 11);
        spans("one point is in the parent", view, 3, 5, 7, 1, 1);
        CHECK.due("step(true)", view.step(true), 3);
    }

    private static DamageView switchInSwitchInPanel(int... sides) {
        DamageView view = withBox(PANEL);
        view.box(SWITCH, 1);
        view.box(SWITCH, 2);
        Check.spread(view, 2, sides[0], sides[1], sides[2], sides[3]);
        Check.spread(view, 3, -50, 50, -50, 50);
        return view;
    }

    private static void hiddenBoxHasNoArea() {
        CHECK.part("\"it has no area while it .. is hidden\"");
        DamageView view = withBox(BUTTON);
        view.hide(1, true);
        spans("hidden", view, 1, 2, 3, 0, 0);
        CHECK.due("press(2, 3)", view.press(2, 3), 0);
        CHECK.due("step(false)", view.step(false), -1);
        CHECK.places(view, 1, 2, 6, 3, 8);
        view.suggest(5, 4);
        spans("hidden still", view, 1, 2, 3, 0, 0);
        view.hide(1, false);
        spans("shown", view, 1, 2, 3, 2, 5);
    }

    private static void hiddenAncestor() {
        CHECK.part("\"or a box that it is in, is hidden\"");
        for (int hidden = 1; hidden <= 5; hidden++) {
            DamageView view = nested(BUTTON, 5);
            CHECK.due("hit(0, 0)", view.hit(0, 0), 5);
            view.hide(hidden, true);
            CHECK.due("hit(0, 0), " + hidden + " hidden", view.hit(0, 0), hidden - 1);
            CHECK.due("step(true)", view.step(true), hidden == 1 ? -1 : hidden - 1);
            view.hide(hidden, false);
            CHECK.due("hit(0, 0), " + hidden + " shown", view.hit(0, 0), 5);
        }
        DamageView view = nested(BUTTON, 5);
        view.hide(3, true);
        view.hide(2, true);
        view.hide(2, false);
        CHECK.due("hit(0, 0): 3 is hidden still", view.hit(0, 0), 2);
    }

    private static void windowIsNeverHidden() {
        CHECK.part("\"the window never is\"");
        DamageView view = withBox(PANEL);
        CHECK.due("hide(0, true)", view.hide(0, true), false);
        CHECK.due("hit(0, 0)", view.hit(0, 0), 0);
        CHECK.due("hit(2, 3)", view.hit(2, 3), 1);
        CHECK.due("damage()", view.damage(), 0);
    }

    private static void inFrontOfItsParent() {
        CHECK.part("\"a box is in front of its parent\"");
        DamageView view = withBox(PANEL);
        view.box(PANEL, 1);
        view.box(PANEL, 0);
        Check.spread(view, 2, 2, 6, 3, 8);
        CHECK.due("hit(2, 3)", view.hit(2, 3), 2);
        CHECK.due("raise(1)", view.raise(1), true);
        CHECK.due("hit(2, 3), the parent raised", view.hit(2, 3), 2);
        CHECK.due("paint()", view.paint(), 20);
        CHECK.due("pixel(5, 7)", view.pixel(5, 7), 3);
    }

    private static void laterInTheOrderWithAllInIt() {
        CHECK.part("\"the one later in the ORDER, with all that is in it, is in front of the other\"");
        DamageView view = new DamageView(20, 12);
        int[] parents = {0, 0, 1, 2, 3};
        for (int parent : parents) {
            view.box(PANEL, parent);
        }
        for (int box = 1; box <= 5; box++) {
            Check.spread(view, box, 0, 20, 0, 12);
        }
        CHECK.due("hit(0, 0): 4 in 2", view.hit(0, 0), 4);
        view.hide(4, true);
        CHECK.due("hit(0, 0): 2, though 5 in 3 in 1 has a higher number", view.hit(0, 0), 2);
        view.raise(1);
        CHECK.due("hit(0, 0): 5 in 3 in 1", view.hit(0, 0), 5);
        view.hide(3, true);
        view.hide(4, false);
        CHECK.due("hit(0, 0): 1 before 4 in 2", view.hit(0, 0), 1);
        view.paint();
        CHECK.due("pixel(19, 11)", view.pixel(19, 11), 2);
    }

    private static void noBoxIsColourZero() {
        CHECK.part("\"or 0 if there is none\"");
        DamageView view = new DamageView(24, 16);
        view.paint();
        view.resize(1, 1);
        CHECK.due("damage()", view.damage(), 384);
        CHECK.due("paint()", view.paint(), 383);
        CHECK.due("pixel(0, 0)", view.pixel(0, 0), 1);
        CHECK.due("pixel(1, 0)", view.pixel(1, 0), 0);
        CHECK.due("pixel(0, 1)", view.pixel(0, 1), 0);
        CHECK.due("pixel(23, 15)", view.pixel(23, 15), 0);
    }

    private static void coloursAddUp() {
        CHECK.part("\"1 + number, + 8 .. ON, + 16 .. FOCUS, + 32 .. PRESSED\"");
        DamageView view = nested(SWITCH, 5);
        int[] due = {6, 6 + 16 + 32, 6 + 8 + 16, 6 + 8 + 16 + 32, 6 + 8 + 32, 6 + 8, 6 + 8 + 16};
        for (int moment = 0; moment < due.length; moment++) {
            switch (moment) {
                case 1, 3 -> view.press(0, 0);
                case 2 -> view.release(0, 0);
                case 4, 6 -> view.step(moment == 6);
                case 5 -> view.release(-1, 0);
                default -> { }
            }
            view.paint();
            CHECK.due("pixel(0, 0) at moment " + moment, view.pixel(0, 0), due[moment]);
        }
        DamageView button = withBox(BUTTON);
        button.press(2, 3);
        button.release(2, 3);
        button.paint();
        CHECK.due("pixel(2, 3): a button is never on", button.pixel(2, 3), 2 + 16);
    }

    private static void frameAtFirst() {
        CHECK.part("\"The FRAME, at first all 0\", \"At first the area of the window is damaged\"");
        for (int y = 0; y < 16; y++) {
            DamageView view = new DamageView(20, 12);
            for (int x = 0; x < 24; x++) {
                CHECK.due("pixel(" + x + ", " + y + ")", view.pixel(x, y), 0);
            }
            CHECK.due("damage()", view.damage(), 240);
            CHECK.due("paint()", view.paint(), 240);
            for (int x = 0; x < 24; x++) {
                CHECK.due("pixel(" + x + ", " + y + ")", view.pixel(x, y), x < 20 && y < 12 ? 1 : 0);
            }
        }
    }

    private static void areaBeforeOrThen() {
        CHECK.part("\"if it is in the area that this box had before or has then\"");
        DamageView view = withBox(PANEL);
        view.constrain(5, 4, 4, 0, 0);
        view.suggest(4, 4);
        CHECK.due("damage(), two areas that overlap", view.damage(), 30);
        view.paint();
        view.suggest(4, 14);
        CHECK.due("damage(), two areas apart: not what lies between", view.damage(), 40);
        CHECK.due("paint()", view.paint(), 40);
        CHECK.due("pixel(4, 3), where it was", view.pixel(4, 3), 1);
        CHECK.due("pixel(14, 3), where it is", view.pixel(14, 3), 2);
        view.suggest(4, 60);
        CHECK.due("damage(), only before", view.damage(), 20);
        view.paint();
        view.suggest(4, 17);
        CHECK.due("damage(), only then, as far as the window goes", view.damage(), 15);
    }

    private static void noOtherPoints() {
        CHECK.part("\"No other points are\"");
        DamageView view = withBox(BUTTON);
        view.box(PANEL, 1);
        view.constrain(5, 4, 4, 1, 3);
        view.constrain(5, 4, 4, 0, 0);
        view.remove(0);
        view.suggest(4, 2);
        view.resize(20, 12);
        view.press(0, 0);
        view.hit(2, 3);
        view.suggest(8, 15);
        CHECK.due("damage() of calls that change no area and no colour", view.damage(), 0);
        view.step(false);
        CHECK.due("damage() of a focus", view.damage(), 20);
        view.paint();
        view.key();
        CHECK.due("damage() of a button's key", view.damage(), 0);
        CHECK.due("paint()", view.paint(), 0);
    }

    private static void coveredPointsAreDamagedToo() {
        CHECK.part("damaged points of a box that another one covers");
        DamageView view = withBox(SWITCH);
        view.box(PANEL, 0);
        Check.spread(view, 2, 0, 20, 0, 12);
        view.paint();
        CHECK.due("step(false)", view.step(false), 1);
        CHECK.due("damage(), its colour", view.damage(), 20);
        CHECK.due("paint()", view.paint(), 0);
        view.suggest(4, 1);
        CHECK.due("damage(), its area", view.damage(), 25);
        CHECK.due("paint()", view.paint(), 0);
        view.hide(1, true);
        CHECK.due("damage(), hidden", view.damage(), 25);
        CHECK.due("paint()", view.paint(), 0);
    }

    private static void colourOfAnEmptyArea() {
        CHECK.part("a box that has lost its area has no points to damage");
        DamageView view = withBox(SWITCH);
        view.press(2, 3);
        view.paint();
        view.suggest(5, 2);
        CHECK.due("damage()", view.damage(), 20);
        CHECK.due("paint()", view.paint(), 20);
        CHECK.due("release(2, 3)", view.release(2, 3), -2);
        CHECK.due("step(false)", view.step(false), -1);
        CHECK.due("key()", view.key(), -1);
        CHECK.due("damage()", view.damage(), 0);
    }

    private static void noneAtFirst() {
        CHECK.part("\"each one box or none (-1, at first)\"");
        DamageView view = withBox(BUTTON);
        CHECK.due("attention()", view.attention(), 0);
        CHECK.due("key()", view.key(), -1);
        CHECK.due("release(2, 3)", view.release(2, 3), -2);
    }

    private static void panelCannot() {
        CHECK.part("\"if it is a button or a switch\"");
        int[] due = {0, 2 + 8 * 2, 2 + 8 * 2};
        for (int kind = PANEL; kind <= SWITCH; kind++) {
            DamageView view = withBox(kind);
            CHECK.due("press(2, 3)", view.press(2, 3), 1);
            CHECK.due("attention(), kind " + kind, view.attention(), due[kind]);
            DamageView stepped = withBox(kind);
            CHECK.due("step(false), kind " + kind, stepped.step(false), kind == PANEL ? -1 : 1);
        }
    }

    private static void coveredButtonCan() {
        CHECK.part("\"its area is not empty\", though another box covers all of it");
        DamageView view = withBox(BUTTON);
        view.box(PANEL, 1);
        Check.spread(view, 2, 0, 20, 0, 12);
        CHECK.due("hit(2, 3)", view.hit(2, 3), 2);
        CHECK.due("step(false)", view.step(false), 1);
        CHECK.due("key()", view.key(), 1);
        view.suggest(9, 19);
        CHECK.due("attention()", view.attention(), 2);
    }

    /** A button that is pressed and has the focus, in a panel; a strong constraint keeps it wide. */
    private static DamageView heldButton() {
        DamageView view = new DamageView(20, 12);
        view.box(PANEL, 0);
        view.box(BUTTON, 1);
        Check.spread(view, 1, 8, 16, 2, 10);
        Check.spread(view, 2, 9, 9, 3, 6);
        view.constrain(9, 8, 3, 0, 1);
        view.constrain(9, 8, 0, 0, 2);
        view.press(9, 3);
        view.paint();
        CHECK.due("attention() at first", view.attention(), 3 + 8 * 3);
        return view;
    }

    private static void loseArea(DamageView view, int way) {
        switch (way) {
            case 0 -> view.hide(2, true);
            case 1 -> view.hide(1, true);
            case 2 -> view.suggest(9, 4);
            case 3 -> view.suggest(7, 3);
            case 4 -> view.constrain(7, 6, 0, 0, 0);
            case 5 -> view.constrain(11, 10, 0, 0, 0);
            case 6 -> view.remove(0);
            case 7 -> view.resize(9, 12);
            default -> view.resize(20, 3);
        }
    }

    private static void noMoreAfterACall() {
        CHECK.part("\"one that can't any more after a call has them no more\"");
        for (int way = 0; way < 9; way++) {
            DamageView view = heldButton();
            loseArea(view, way);
            spans("way " + way, view, 2, 9, 3, 0, 0);
            CHECK.due("attention(), way " + way, view.attention(), 0);
            CHECK.due("release(9, 3), way " + way, view.release(9, 3), -2);
            CHECK.due("key(), way " + way, view.key(), -1);
            CHECK.due("count(2), way " + way, view.count(2), 0);
        }
        DamageView view = heldButton();
        view.resize(10, 4);
        spans("one point is left", view, 2, 9, 3, 1, 1);
        CHECK.due("attention(), one point is left", view.attention(), 3 + 8 * 3);
    }

    private static void lostAttentionStaysLost() {
        CHECK.part("has them no more, also when it can again");
        DamageView view = heldButton();
        view.hide(1, true);
        view.hide(1, false);
        CHECK.due("attention()", view.attention(), 0);
        CHECK.due("release(9, 3)", view.release(9, 3), -2);
        view.paint();
        CHECK.due("pixel(9, 3)", view.pixel(9, 3), 3);
        CHECK.due("press(9, 3)", view.press(9, 3), 2);
        CHECK.due("attention()", view.attention(), 3 + 8 * 3);
    }

    private static void onlyThatOneIsLost() {
        CHECK.part("has them no more; another one keeps what it has");
        DamageView view = heldButton();
        view.box(SWITCH, 0);
        Check.spread(view, 3, 0, 2, 0, 2);
        view.step(false);
        CHECK.due("attention()", view.attention(), 4 + 8 * 3);
        view.hide(2, true);
        CHECK.due("attention(), the pressed one hidden", view.attention(), 4);
        view.hide(2, false);
        view.press(9, 3);
        view.step(false);
        view.hide(3, true);
        CHECK.due("attention(), the one with the focus hidden", view.attention(), 8 * 3);
        CHECK.due("release(9, 3)", view.release(9, 3), 2);
        CHECK.due("attention()", view.attention(), 0);
    }

    private static void lossChangesTheColour() {
        CHECK.part("\"that too changes its colour\"");
        DamageView view = heldButton();
        CHECK.due("pixel(9, 3)", view.pixel(9, 3), 3 + 16 + 32);
        view.hide(2, true);
        view.hide(2, false);
        CHECK.due("damage()", view.damage(), 9);
        CHECK.due("paint()", view.paint(), 9);
        CHECK.due("pixel(9, 3)", view.pixel(9, 3), 3);
        view.step(false);
        view.paint();
        view.press(0, 0);
        CHECK.due("damage() of a press elsewhere", view.damage(), 9);
        view.paint();
        CHECK.due("pixel(9, 3)", view.pixel(9, 3), 3);
    }

    private static void activating() {
        CHECK.part("\"its COUNT, and that of each box that it is in, grows by 1\"");
        DamageView view = nested(SWITCH, 5);
        for (int box = 1; box <= 5; box++) {
            CHECK.due("step(false)", view.step(false), box);
            CHECK.due("key()", view.key(), box);
        }
        int[] counts = {5, 5, 4, 3, 2, 1};
        for (int box = 0; box < counts.length; box++) {
            CHECK.due("count(" + box + ")", view.count(box), counts[box]);
        }
        DamageView beside = withBox(BUTTON);
        beside.box(BUTTON, 0);
        Check.spread(beside, 2, 2, 6, 3, 8);
        beside.press(2, 3);
        beside.release(2, 3);
        CHECK.due("count(2)", beside.count(2), 1);
        CHECK.due("count(1), not of a box behind it", beside.count(1), 0);
        CHECK.due("count(0)", beside.count(0), 1);
    }

    private static void switchKeepsItsState() {
        CHECK.part("\"a switch that was off is then ON, and the other way round\"");
        DamageView view = nested(SWITCH, 2);
        view.suggest(8, 5);
        int[] outer = {2, 2 + 8, 2, 2 + 8};
        for (int times = 0; times < outer.length; times++) {
            view.press(19, 0);
            view.paint();
            CHECK.due("pixel(0, 0), turned " + times + " times", view.pixel(0, 0), outer[times]);
            view.release(-1, -1);
            view.press(0, 0);
            CHECK.due("release(0, 0)", view.release(0, 0), 1);
        }
        view.hide(1, true);
        view.hide(1, false);
        view.press(-1, -1);
        view.paint();
        CHECK.due("pixel(0, 0): four times is off", view.pixel(0, 0), 2);
        CHECK.due("pixel(19, 0): the inner one was never turned", view.pixel(19, 0), 3);
        view.press(0, 0);
        view.release(0, 0);
        view.hide(1, true);
        view.hide(1, false);
        view.paint();
        CHECK.due("pixel(0, 0): on, also after it was hidden", view.pixel(0, 0), 2 + 8);
    }
}

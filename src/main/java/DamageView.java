import java.util.Arrays;

/**
 * Boxes in a window whose edges are placed by constraints of four strengths, with pointer, keys,
 * focus, and a picture in which only what was damaged is painted again.
 */
public final class DamageView {
    private static final int MOST_BOXES = 6;
    private static final int EDGES_OF_A_BOX = 4;
    private static final int MOST_EDGES = MOST_BOXES * EDGES_OF_A_BOX;
    private static final int MOST_CONSTRAINTS = 16;
    private static final int SCREEN_WIDTH = 24;
    private static final int SCREEN_HEIGHT = 16;
    private static final int FURTHEST = 99;

    private static final int LEFT = 0;
    private static final int RIGHT = 1;
    private static final int TOP = 2;
    private static final int BOTTOM = 3;

    private static final int PANEL = 0;
    private static final int SWITCH = 2;

    private static final int EQUAL = 0;
    private static final int AT_LEAST = 1;

    private static final int REQUIRED = 0;
    private static final int STRONG = 1;
    private static final int WEAK = 3;

    private static final int ON_COLOUR = 8;
    private static final int FOCUS_COLOUR = 16;
    private static final int PRESSED_COLOUR = 32;

    private static final int NONE = -1;
    private static final int WRONG_POINTER = -2;
    private static final int TOO_MANY = -2;
    private static final int CONFLICT = -3;

    private final Layout layout;
    private final Screen screen = new Screen();
    private final Box[] boxes = new Box[MOST_BOXES];
    /** All boxes; those of one parent stand here in their order, the one in front last. */
    private final Box[] order = new Box[MOST_BOXES];
    private int boxCount;
    private Box focus;
    private Box pressed;

    public DamageView(int width, int height) {
        layout = new Layout(nearest(width, 1, SCREEN_WIDTH), nearest(height, 1, SCREEN_HEIGHT));
        addBox(PANEL, null);
        showChanges();
    }

    public int box(int kind, int parent) {
        if (boxCount >= MOST_BOXES || kind < PANEL || kind > SWITCH || !isBox(parent)) {
            return NONE;
        }
        return addBox(kind, boxes[parent]);
    }

    public int constrain(int p, int q, int c, int form, int strength) {
        if (!layout.canJoin(p, q) || !isNear(c) || form < EQUAL || form > AT_LEAST
                || strength < REQUIRED || strength > WEAK) {
            return NONE;
        }
        int number = layout.freeNumber();
        if (number == NONE) {
            return TOO_MANY;
        }
        if (!layout.add(number, new Constraint(p, q, c, form, strength))) {
            return CONFLICT;
        }
        showChanges();
        return number;
    }

    public boolean remove(int constraint) {
        if (layout.constraintAt(constraint) == null) {
            return false;
        }
        layout.takeAway(constraint);
        showChanges();
        return true;
    }

    public boolean suggest(int edge, int place) {
        if (!layout.isEdge(edge) || !isNear(place)) {
            return false;
        }
        layout.solveNear(edge, place);
        showChanges();
        return true;
    }

    public boolean resize(int width, int height) {
        if (width < 1 || width > SCREEN_WIDTH || height < 1 || height > SCREEN_HEIGHT
                || !layout.setSize(width, height)) {
            return false;
        }
        showChanges();
        return true;
    }

    public int place(int edge) {
        return layout.isEdge(edge) ? layout.places[edge] : 0;
    }

    public int error(int constraint) {
        Constraint asked = layout.constraintAt(constraint);
        return asked == null ? NONE : asked.errorIn(layout.places);
    }

    public boolean hide(int box, boolean on) {
        if (!isInnerBox(box) || boxes[box].hidden == on) {
            return false;
        }
        boxes[box].hidden = on;
        showChanges();
        return true;
    }

    public boolean raise(int box) {
        if (!isInnerBox(box) || isLastOfItsParent(boxes[box])) {
            return false;
        }
        bringToFront(boxes[box]);
        // The areas of all boxes that are in it lie within its own.
        screen.damageArea(boxes[box].area);
        return true;
    }

    public int hit(int x, int y) {
        return numberOf(frontBox(x, y));
    }

    public int press(int x, int y) {
        if (pressed != null) {
            return WRONG_POINTER;
        }
        Box under = frontBox(x, y);
        focus = under != null && under.canHaveAttention() ? under : null;
        pressed = focus;
        showChanges();
        return numberOf(under);
    }

    public int release(int x, int y) {
        if (pressed == null) {
            return WRONG_POINTER;
        }
        Box released = frontBox(x, y) == pressed ? pressed : null;
        pressed = null;
        if (released != null) {
            activate(released);
        }
        showChanges();
        return numberOf(released);
    }

    public int step(boolean back) {
        int pace = back ? -1 : 1;
        int start = back ? boxCount : -1;
        if (focus != null) {
            start = focus.number;
        }
        for (int i = 1; i <= boxCount; i++) {
            Box next = boxes[Math.floorMod(start + i * pace, boxCount)];
            if (next.canHaveAttention()) {
                focus = next;
                break;
            }
        }
        showChanges();
        return numberOf(focus);
    }

    public int key() {
        if (focus != null) {
            activate(focus);
            showChanges();
        }
        return numberOf(focus);
    }

    public int attention() {
        return numberOf(focus) + 1 + 8 * (numberOf(pressed) + 1);
    }

    public int count(int box) {
        return isBox(box) ? boxes[box].activations : NONE;
    }

    public int damage() {
        return screen.damagedPoints();
    }

    public int paint() {
        int changed = 0;
        for (int y = 0; y < SCREEN_HEIGHT; y++) {
            for (int x = 0; x < SCREEN_WIDTH; x++) {
                if (screen.isDamaged(x, y) && screen.repair(x, y, pictureAt(x, y))) {
                    changed++;
                }
            }
        }
        return changed;
    }

    public int pixel(int x, int y) {
        boolean onScreen = x >= 0 && x < SCREEN_WIDTH && y >= 0 && y < SCREEN_HEIGHT;
        return onScreen ? screen.frameAt(x, y) : NONE;
    }

    private static int nearest(int wanted, int least, int most) {
        if (wanted < least) {
            return least;
        }
        return wanted > most ? most : wanted;
    }

    private static boolean isNear(int number) {
        return number >= -FURTHEST && number <= FURTHEST;
    }

    private static int numberOf(Box box) {
        return box == null ? NONE : box.number;
    }

    private boolean isBox(int box) {
        return box >= 0 && box < boxCount;
    }

    private boolean isInnerBox(int box) {
        return box > 0 && box < boxCount;
    }

    private int addBox(int kind, Box parent) {
        int number = boxCount;
        Box added = new Box(number, kind, parent);
        boxes[number] = added;
        order[number] = added;
        boxCount++;
        layout.edgeCount = boxCount * EDGES_OF_A_BOX;
        return number;
    }

    private boolean isLastOfItsParent(Box box) {
        Box last = box;
        for (int i = 0; i < boxCount; i++) {
            if (order[i].parent == box.parent) {
                last = order[i];
            }
        }
        return last == box;
    }

    private void bringToFront(Box box) {
        int kept = 0;
        for (int i = 0; i < boxCount; i++) {
            if (order[i] != box) {
                order[kept] = order[i];
                kept++;
            }
        }
        order[boxCount - 1] = box;
    }

    private Box frontBox(int x, int y) {
        Box front = null;
        // The window is the one box without a parent.
        Box inner = frontChild(null, x, y);
        for (int depth = 0; depth < MOST_BOXES && inner != null; depth++) {
            front = inner;
            inner = frontChild(front, x, y);
        }
        return front;
    }

    private Box frontChild(Box parent, int x, int y) {
        for (int i = boxCount - 1; i >= 0; i--) {
            if (order[i].parent == parent && order[i].area.has(x, y)) {
                return order[i];
            }
        }
        return null;
    }

    private int pictureAt(int x, int y) {
        Box front = frontBox(x, y);
        return front == null ? 0 : front.colour;
    }

    private static void activate(Box box) {
        Box counted = box;
        for (int depth = 0; depth < MOST_BOXES && counted != null; depth++) {
            counted.activations++;
            counted = counted.parent;
        }
        if (box.kind == SWITCH) {
            box.on = !box.on;
        }
    }

    /** Ends every call that may change an area or a colour: finds them anew and damages what changed. */
    private void showChanges() {
        // A parent has a lower number, so its area is found before those of its children.
        for (int i = 0; i < boxCount; i++) {
            boxes[i].findArea(layout.places);
        }
        if (focus != null && !focus.canHaveAttention()) {
            focus = null;
        }
        if (pressed != null && !pressed.canHaveAttention()) {
            pressed = null;
        }
        for (int i = 0; i < boxCount; i++) {
            showBox(boxes[i]);
        }
    }

    private void showBox(Box box) {
        int colour = colourOf(box);
        if (colour != box.colour || !box.area.isSameAs(box.areaBefore)) {
            screen.damageArea(box.areaBefore);
            screen.damageArea(box.area);
        }
        box.colour = colour;
    }

    private int colourOf(Box box) {
        return 1 + box.number
                + (box.on ? ON_COLOUR : 0)
                + (box == focus ? FOCUS_COLOUR : 0)
                + (box == pressed ? PRESSED_COLOUR : 0);
    }

    private static final class Box {
        final int number;
        final int kind;
        /** Null for the window alone. */
        final Box parent;
        final Area area = new Area();
        final Area areaBefore = new Area();
        int colour;
        int activations;
        boolean hidden;
        boolean on;

        Box(int number, int kind, Box parent) {
            this.number = number;
            this.kind = kind;
            this.parent = parent;
            colour = 1 + number;
        }

        boolean canHaveAttention() {
            return kind != PANEL && !area.isEmpty();
        }

        void findArea(int[] places) {
            areaBefore.copyFrom(area);
            if (hidden) {
                area.makeEmpty();
                return;
            }
            area.takeEdges(places, number * EDGES_OF_A_BOX);
            // The window has no parent, and its sizes keep it on the screen.
            if (parent != null) {
                area.cutTo(parent.area);
            }
        }
    }

    /** The points with left <= x < right and top <= y < bottom; all four are 0 if there are none. */
    private static final class Area {
        private int left;
        private int right;
        private int top;
        private int bottom;

        boolean isEmpty() {
            return left >= right || top >= bottom;
        }

        boolean has(int x, int y) {
            return left <= x && x < right && top <= y && y < bottom;
        }

        boolean isSameAs(Area other) {
            return left == other.left && right == other.right
                    && top == other.top && bottom == other.bottom;
        }

        void makeEmpty() {
            left = 0;
            right = 0;
            top = 0;
            bottom = 0;
        }

        void copyFrom(Area other) {
            left = other.left;
            right = other.right;
            top = other.top;
            bottom = other.bottom;
        }

        void takeEdges(int[] places, int first) {
            left = places[first + LEFT];
            right = places[first + RIGHT];
            top = places[first + TOP];
            bottom = places[first + BOTTOM];
        }

        void cutTo(Area other) {
            left = Math.max(left, other.left);
            right = Math.min(right, other.right);
            top = Math.max(top, other.top);
            bottom = Math.min(bottom, other.bottom);
            if (isEmpty()) {
                // Two empty areas are the same, wherever their edges were.
                makeEmpty();
            }
        }
    }

    /** The frame, and which of its points are damaged. */
    private static final class Screen {
        private final int[] frame = new int[SCREEN_WIDTH * SCREEN_HEIGHT];
        private final boolean[] damaged = new boolean[SCREEN_WIDTH * SCREEN_HEIGHT];

        private static int pointOf(int x, int y) {
            return y * SCREEN_WIDTH + x;
        }

        void damageArea(Area area) {
            for (int y = 0; y < SCREEN_HEIGHT; y++) {
                for (int x = 0; x < SCREEN_WIDTH; x++) {
                    if (area.has(x, y)) {
                        damaged[pointOf(x, y)] = true;
                    }
                }
            }
        }

        int damagedPoints() {
            int points = 0;
            for (int i = 0; i < damaged.length; i++) {
                if (damaged[i]) {
                    points++;
                }
            }
            return points;
        }

        boolean isDamaged(int x, int y) {
            return damaged[pointOf(x, y)];
        }

        int frameAt(int x, int y) {
            return frame[pointOf(x, y)];
        }

        /** Answers whether the frame had another colour there. */
        boolean repair(int x, int y, int colour) {
            int point = pointOf(x, y);
            boolean changes = frame[point] != colour;
            frame[point] = colour;
            damaged[point] = false;
            return changes;
        }
    }

    private static final class Constraint {
        final int strength;
        private final int p;
        private final int q;
        private final int c;
        private final int form;

        Constraint(int p, int q, int c, int form, int strength) {
            this.p = p;
            this.q = q;
            this.c = c;
            this.form = form;
            this.strength = strength;
        }

        int errorIn(int[] places) {
            int missing = c - (places[p] - places[q]);
            return form == EQUAL ? Math.abs(missing) : Math.max(0, missing);
        }

        void demandIn(Bounds bounds) {
            if (form == EQUAL) {
                bounds.fix(p, q, c);
            } else {
                bounds.keepAtLeast(p, q, c);
            }
        }

        /** Leaves of the choices within the bounds those in which the error is least. */
        void leastErrorIn(Bounds bounds) {
            if (form == EQUAL) {
                bounds.fixNear(p, q, c);
            } else {
                bounds.keepAtLeast(p, q, Math.min(c, bounds.highest(p, q)));
            }
        }
    }

    /** The places of all edges, and the constraints that they are found by. */
    private static final class Layout {
        /** Its place is always 0, so a place is a difference from it. */
        private static final int ORIGIN = LEFT;

        final int[] places = new int[MOST_EDGES];
        int edgeCount;
        private final Constraint[] constraints = new Constraint[MOST_CONSTRAINTS];
        private final Bounds bounds = new Bounds();
        private int width;
        private int height;

        Layout(int width, int height) {
            this.width = width;
            this.height = height;
            places[RIGHT] = width;
            places[BOTTOM] = height;
        }

        boolean isEdge(int edge) {
            return edge >= 0 && edge < edgeCount;
        }

        boolean canJoin(int p, int q) {
            return isEdge(p) && isEdge(q) && p != q && isTopOrBottom(p) == isTopOrBottom(q);
        }

        private static boolean isTopOrBottom(int edge) {
            return edge % EDGES_OF_A_BOX >= TOP;
        }

        int freeNumber() {
            for (int i = 0; i < MOST_CONSTRAINTS; i++) {
                if (constraints[i] == null) {
                    return i;
                }
            }
            return NONE;
        }

        Constraint constraintAt(int number) {
            return number >= 0 && number < MOST_CONSTRAINTS ? constraints[number] : null;
        }

        boolean add(int number, Constraint added) {
            constraints[number] = added;
            boolean solved = solve();
            if (!solved) {
                constraints[number] = null;
            }
            return solved;
        }

        void takeAway(int number) {
            constraints[number] = null;
            solve();
        }

        boolean setSize(int newWidth, int newHeight) {
            int oldWidth = width;
            int oldHeight = height;
            width = newWidth;
            height = newHeight;
            boolean solved = solve();
            if (!solved) {
                width = oldWidth;
                height = oldHeight;
            }
            return solved;
        }

        /** Answers false, and leaves all places as they are, if there is a conflict. */
        private boolean solve() {
            demandAll();
            if (bounds.conflict) {
                return false;
            }
            chooseBest();
            return true;
        }

        void solveNear(int edge, int wanted) {
            demandAll();
            // What is demanded was met before this call and is the same still: there is no conflict.
            bounds.fixNear(edge, ORIGIN, wanted);
            chooseBest();
        }

        private void demandAll() {
            bounds.open(edgeCount);
            bounds.fix(RIGHT, ORIGIN, width);
            bounds.fix(TOP, ORIGIN, 0);
            bounds.fix(BOTTOM, ORIGIN, height);
            for (int first = 0; first < edgeCount; first += EDGES_OF_A_BOX) {
                bounds.keepAtLeast(first + RIGHT, first + LEFT, 0);
                bounds.keepAtLeast(first + BOTTOM, first + TOP, 0);
            }
            for (int i = 0; i < MOST_CONSTRAINTS; i++) {
                if (constraints[i] != null && constraints[i].strength == REQUIRED) {
                    constraints[i].demandIn(bounds);
                }
            }
        }

        private void chooseBest() {
            for (int strength = STRONG; strength <= WEAK; strength++) {
                for (int i = 0; i < MOST_CONSTRAINTS; i++) {
                    if (constraints[i] != null && constraints[i].strength == strength) {
                        constraints[i].leastErrorIn(bounds);
                    }
                }
            }
            for (int edge = 0; edge < edgeCount; edge++) {
                places[edge] = bounds.fixNear(edge, ORIGIN, places[edge]);
            }
        }
    }

    /**
     * How far apart each two edges can be. All that solving asks for is a bound on the difference of
     * two places, and between the least and the greatest difference that the other bounds leave every
     * int can be had; so each wish is met as far as it can be by one more bound.
     */
    private static final class Bounds {
        /** Stands for no bound: far above every sum of bounds that a run can reach. */
        private static final int FAR = 1 << 28;

        /** rise[p][q]: the place of q minus that of p is at most this, by all bounds taken together. */
        private final int[][] rise = new int[MOST_EDGES][MOST_EDGES];
        private int edgeCount;
        boolean conflict;

        void open(int edges) {
            edgeCount = Math.min(edges, MOST_EDGES);
            conflict = false;
            for (int p = 0; p < edgeCount; p++) {
                Arrays.fill(rise[p], FAR);
                rise[p][p] = 0;
            }
        }

        int highest(int p, int q) {
            return rise[q][p];
        }

        int lowest(int p, int q) {
            return -rise[p][q];
        }

        void fix(int p, int q, int difference) {
            keepAtMost(p, q, difference);
            keepAtMost(q, p, -difference);
        }

        /** Answers the difference nearest to the wanted one, which is the only one from then on. */
        int fixNear(int p, int q, int wanted) {
            int difference = nearest(wanted, lowest(p, q), highest(p, q));
            keepAtMost(p, q, difference);
            keepAtMost(q, p, -difference);
            return difference;
        }

        void keepAtLeast(int p, int q, int difference) {
            keepAtMost(q, p, -difference);
        }

        void keepAtMost(int p, int q, int difference) {
            if (difference >= rise[q][p]) {
                return;
            }
            if (difference < -rise[p][q]) {
                conflict = true;
                return;
            }
            for (int from = 0; from < edgeCount; from++) {
                int way = rise[from][q] + difference;
                // Where the new bound does not tell more of p, it tells no more of any other edge.
                if (rise[from][q] >= FAR || way >= rise[from][p]) {
                    continue;
                }
                for (int to = 0; to < edgeCount; to++) {
                    if (rise[p][to] < FAR && way + rise[p][to] < rise[from][to]) {
                        rise[from][to] = way + rise[p][to];
                    }
                }
            }
        }
    }
}

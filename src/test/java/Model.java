import java.util.ArrayList;
import java.util.List;

/**
 * DamageView once more, written from the document as directly as can be and without regard to speed:
 * areas are sets of points, and each step of solving tries errors until the places can be had.
 */
final class Model {
    private static final int WIDTH = 24;
    private static final int HEIGHT = 16;

    private static final class Box {
        int kind;
        int parent;
        int rank;
        int count;
        boolean hidden;
        boolean on;
    }

    /** In the order p, q, c, form, strength. */
    private final int[][] constraints = new int[16][];
    private final List<Box> boxes = new ArrayList<>();
    private int[] places = new int[24];
    private int width;
    private int height;
    private int focus = -1;
    private int pressed = -1;
    private int ranks;
    private final int[][] frame = new int[WIDTH][HEIGHT];
    private final boolean[][] damaged = new boolean[WIDTH][HEIGHT];
    private boolean[][][] areasBefore;
    private int[] coloursBefore;

    Model(int width, int height) {
        this.width = Math.min(WIDTH, Math.max(1, width));
        this.height = Math.min(HEIGHT, Math.max(1, height));
        places[1] = this.width;
        places[3] = this.height;
        addBox(0, -1);
        damage(area(0));
    }

    int box(int kind, int parent) {
        if (boxes.size() == 6 || kind < 0 || kind > 2 || !isBox(parent)) {
            return -1;
        }
        addBox(kind, parent);
        return boxes.size() - 1;
    }

    int constrain(int p, int q, int c, int form, int strength) {
        if (!isEdge(p) || !isEdge(q) || p == q || p / 2 % 2 != q / 2 % 2 || c < -99 || c > 99
                || form < 0 || form > 1 || strength < 0 || strength > 3) {
            return -1;
        }
        int number = 0;
        while (number < 16 && constraints[number] != null) {
            number++;
        }
        if (number == 16) {
            return -2;
        }
        begin();
        constraints[number] = new int[] {p, q, c, form, strength};
        if (!solve(-1, 0)) {
            constraints[number] = null;
            return -3;
        }
        end();
        return number;
    }

    boolean remove(int constraint) {
        if (constraint < 0 || constraint > 15 || constraints[constraint] == null) {
            return false;
        }
        begin();
        constraints[constraint] = null;
        solve(-1, 0);
        end();
        return true;
    }

    boolean suggest(int edge, int place) {
        if (!isEdge(edge) || place < -99 || place > 99) {
            return false;
        }
        begin();
        solve(edge, place);
        end();
        return true;
    }

    boolean resize(int newWidth, int newHeight) {
        if (newWidth < 1 || newWidth > WIDTH || newHeight < 1 || newHeight > HEIGHT) {
            return false;
        }
        begin();
        int oldWidth = width;
        int oldHeight = height;
        width = newWidth;
        height = newHeight;
        if (!solve(-1, 0)) {
            width = oldWidth;
            height = oldHeight;
            return false;
        }
        end();
        return true;
    }

    int place(int edge) {
        return isEdge(edge) ? places[edge] : 0;
    }

    int error(int constraint) {
        if (constraint < 0 || constraint > 15 || constraints[constraint] == null) {
            return -1;
        }
        int[] asked = constraints[constraint];
        int difference = places[asked[0]] - places[asked[1]];
        if (asked[3] == 0) {
            return Math.abs(difference - asked[2]);
        }
        return difference < asked[2] ? asked[2] - difference : 0;
    }

    boolean hide(int box, boolean on) {
        if (!isBox(box) || box == 0 || boxes.get(box).hidden == on) {
            return false;
        }
        begin();
        boxes.get(box).hidden = on;
        end();
        return true;
    }

    boolean raise(int box) {
        if (!isBox(box) || box == 0) {
            return false;
        }
        boolean last = true;
        for (Box other : boxes) {
            last &= other.parent != boxes.get(box).parent || other.rank <= boxes.get(box).rank;
        }
        if (last) {
            return false;
        }
        boxes.get(box).rank = ranks++;
        for (int inner = 0; inner < boxes.size(); inner++) {
            if (isIn(inner, box)) {
                damage(area(inner));
            }
        }
        return true;
    }

    int hit(int x, int y) {
        if (x < 0 || x >= WIDTH || y < 0 || y >= HEIGHT) {
            return -1;
        }
        int front = -1;
        for (int box = 0; box < boxes.size(); box++) {
            if (area(box)[x][y] && (front < 0 || isBefore(box, front))) {
                front = box;
            }
        }
        return front;
    }

    int press(int x, int y) {
        if (pressed >= 0) {
            return -2;
        }
        begin();
        int box = hit(x, y);
        focus = box >= 0 && can(box) ? box : -1;
        pressed = focus;
        end();
        return box;
    }

    int release(int x, int y) {
        if (pressed < 0) {
            return -2;
        }
        begin();
        int released = hit(x, y) == pressed ? pressed : -1;
        pressed = -1;
        if (released >= 0) {
            activate(released);
        }
        end();
        return released;
    }

    int step(boolean back) {
        List<Integer> able = new ArrayList<>();
        for (int box = 0; box < boxes.size(); box++) {
            if (can(box)) {
                able.add(box);
            }
        }
        if (able.isEmpty()) {
            return -1;
        }
        begin();
        int at = able.indexOf(focus);
        if (back) {
            focus = at <= 0 ? able.get(able.size() - 1) : able.get(at - 1);
        } else {
            focus = at < 0 || at == able.size() - 1 ? able.get(0) : able.get(at + 1);
        }
        end();
        return focus;
    }

    int key() {
        if (focus < 0) {
            return -1;
        }
        begin();
        activate(focus);
        end();
        return focus;
    }

    int attention() {
        return focus + 1 + 8 * (pressed + 1);
    }

    int count(int box) {
        return isBox(box) ? boxes.get(box).count : -1;
    }

    int damage() {
        int points = 0;
        for (boolean[] column : damaged) {
            for (boolean point : column) {
                points += point ? 1 : 0;
            }
        }
        return points;
    }

    int paint() {
        int changed = 0;
        for (int x = 0; x < WIDTH; x++) {
            for (int y = 0; y < HEIGHT; y++) {
                if (damaged[x][y]) {
                    int box = hit(x, y);
                    int colour = box < 0 ? 0 : colour(box);
                    changed += frame[x][y] != colour ? 1 : 0;
                    frame[x][y] = colour;
                    damaged[x][y] = false;
                }
            }
        }
        return changed;
    }

    int pixel(int x, int y) {
        return x < 0 || x >= WIDTH || y < 0 || y >= HEIGHT ? -1 : frame[x][y];
    }

    private boolean isBox(int box) {
        return box >= 0 && box < boxes.size();
    }

    private boolean isEdge(int edge) {
        return edge >= 0 && edge < 4 * boxes.size();
    }

    private void addBox(int kind, int parent) {
        Box box = new Box();
        box.kind = kind;
        box.parent = parent;
        box.rank = ranks++;
        boxes.add(box);
    }

    private boolean isIn(int inner, int outer) {
        return inner >= 0 && (inner == outer || isIn(boxes.get(inner).parent, outer));
    }

    /** The boxes that a box is in, the window first, and the box itself last. */
    private List<Integer> wayTo(int box) {
        List<Integer> way = box < 0 ? new ArrayList<>() : wayTo(boxes.get(box).parent);
        if (box >= 0) {
            way.add(box);
        }
        return way;
    }

    private boolean isBefore(int box, int other) {
        if (box == other || isIn(other, box)) {
            return false;
        }
        if (isIn(box, other)) {
            return true;
        }
        List<Integer> way = wayTo(box);
        List<Integer> otherWay = wayTo(other);
        int fork = 0;
        while (way.get(fork).equals(otherWay.get(fork))) {
            fork++;
        }
        return boxes.get(way.get(fork)).rank > boxes.get(otherWay.get(fork)).rank;
    }

    private boolean[][] area(int box) {
        boolean[][] area = new boolean[WIDTH][HEIGHT];
        for (int x = 0; x < WIDTH; x++) {
            for (int y = 0; y < HEIGHT; y++) {
                area[x][y] = hasPoint(box, x, y);
            }
        }
        return area;
    }

    private boolean hasPoint(int box, int x, int y) {
        if (box < 0) {
            return true;
        }
        return !boxes.get(box).hidden
                && places[4 * box] <= x && x < places[4 * box + 1]
                && places[4 * box + 2] <= y && y < places[4 * box + 3]
                && hasPoint(boxes.get(box).parent, x, y);
    }

    private boolean can(int box) {
        if (boxes.get(box).kind == 0) {
            return false;
        }
        for (boolean[] column : area(box)) {
            for (boolean point : column) {
                if (point) {
                    return true;
                }
            }
        }
        return false;
    }

    private int colour(int box) {
        return 1 + box + (boxes.get(box).on ? 8 : 0) + (focus == box ? 16 : 0) + (pressed == box ? 32 : 0);
    }

    private void activate(int box) {
        for (int counted : wayTo(box)) {
            boxes.get(counted).count++;
        }
        if (boxes.get(box).kind == 2) {
            boxes.get(box).on = !boxes.get(box).on;
        }
    }

    private void begin() {
        areasBefore = new boolean[boxes.size()][][];
        coloursBefore = new int[boxes.size()];
        for (int box = 0; box < boxes.size(); box++) {
            areasBefore[box] = area(box);
            coloursBefore[box] = colour(box);
        }
    }

    private void end() {
        focus = focus >= 0 && can(focus) ? focus : -1;
        pressed = pressed >= 0 && can(pressed) ? pressed : -1;
        for (int box = 0; box < boxes.size(); box++) {
            boolean[][] area = area(box);
            if (colour(box) != coloursBefore[box] || !java.util.Arrays.deepEquals(area, areasBefore[box])) {
                damage(areasBefore[box]);
                damage(area);
            }
        }
    }

    private void damage(boolean[][] area) {
        for (int x = 0; x < WIDTH; x++) {
            for (int y = 0; y < HEIGHT; y++) {
                damaged[x][y] |= area[x][y];
            }
        }
    }

    private boolean solve(int edge, int place) {
        List<int[]> bounds = new ArrayList<>();
        addError(bounds, new int[] {1, 0, width, 0}, 0);
        addError(bounds, new int[] {2, 0, 0, 0}, 0);
        addError(bounds, new int[] {3, 0, height, 0}, 0);
        for (int box = 0; box < boxes.size(); box++) {
            addError(bounds, new int[] {4 * box + 1, 4 * box, 0, 1}, 0);
            addError(bounds, new int[] {4 * box + 3, 4 * box + 2, 0, 1}, 0);
        }
        addStrength(bounds, 0);
        if (placesWithin(bounds) == null) {
            return false;
        }
        if (edge > 0) {
            addLeastError(bounds, new int[] {edge, 0, place, 0});
        }
        for (int strength = 1; strength <= 3; strength++) {
            addStrength(bounds, strength);
        }
        for (int e = 1; e < 4 * boxes.size(); e++) {
            addLeastError(bounds, new int[] {e, 0, places[e], 0});
        }
        places = placesWithin(bounds);
        return true;
    }

    private void addStrength(List<int[]> bounds, int strength) {
        for (int[] constraint : constraints) {
            if (constraint != null && constraint[4] == strength) {
                if (strength == 0) {
                    addError(bounds, constraint, 0);
                } else {
                    addLeastError(bounds, constraint);
                }
            }
        }
    }

    private void addLeastError(List<int[]> bounds, int[] constraint) {
        int least = 0;
        int most = 1 << 20;
        while (least < most) {
            int error = (least + most) / 2;
            List<int[]> tried = new ArrayList<>(bounds);
            addError(tried, constraint, error);
            if (placesWithin(tried) == null) {
                least = error + 1;
            } else {
                most = error;
            }
        }
        addError(bounds, constraint, least);
    }

    /** A bound (a, b, w) says: the place of a minus that of b is at most w. */
    private static void addError(List<int[]> bounds, int[] constraint, int error) {
        bounds.add(new int[] {constraint[1], constraint[0], error - constraint[2]});
        if (constraint[3] == 0) {
            bounds.add(new int[] {constraint[0], constraint[1], error + constraint[2]});
        }
    }

    private int[] placesWithin(List<int[]> bounds) {
        int[] found = new int[24];
        boolean changed = true;
        for (int round = 0; round <= 24 && changed; round++) {
            changed = false;
            for (int[] bound : bounds) {
                if (found[bound[0]] > found[bound[1]] + bound[2]) {
                    found[bound[0]] = found[bound[1]] + bound[2];
                    changed = true;
                }
            }
        }
        if (changed) {
            return null;
        }
        int origin = found[0];
        for (int e = 0; e < 24; e++) {
            found[e] = e < 4 * boxes.size() ? found[e] - origin : 0;
        }
        return found;
    }
}

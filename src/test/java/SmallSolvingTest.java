import java.util.ArrayList;
import java.util.List;
import java.util.Random;

/**
 * Promises 3 to 6: solving along one axis, two boxes in a small window, against a search through all
 * choices of places from -REACH to REACH.
 */
public final class SmallSolvingTest {
    private static final int RUNS = 60;
    private static final int CALLS = 8;
    private static final int REACH = 11;
    /** The edges of one axis, the window's first; edge e of the second axis is e + 2. */
    private static final int[] EDGES = {0, 1, 4, 5, 8, 9};
    private static final Check CHECK = new Check();

    private final Random random;
    /** 0 for the left and right edges, 2 for the top and bottom ones. */
    private final int axis;
    private final DamageView view;
    /** In the order p, q, c, form, strength; p and q count within EDGES. */
    private final int[][] constraints = new int[16][];
    private int size;
    private int[] places;

    private SmallSolvingTest(int seed) {
        random = new Random(seed);
        axis = seed % 2 * 2;
        size = 3;
        view = new DamageView(3, 3);
        view.box(0, 0);
        view.box(0, 0);
        places = new int[] {0, 3, 0, 0, 0, 0};
    }

    public static void main(String[] args) {
        for (int seed = 0; seed < RUNS; seed++) {
            SmallSolvingTest run = new SmallSolvingTest(seed);
            for (int call = 0; call < CALLS; call++) {
                CHECK.part("run " + seed + ", call " + call);
                run.call();
                run.comparePlaces();
            }
        }
        CHECK.end();
    }

    private void call() {
        int kind = random.nextInt(10);
        if (kind < 6) {
            constrain();
        } else if (kind < 7) {
            remove(random.nextInt(3));
        } else if (kind < 9) {
            suggest(random.nextInt(6), random.nextInt(9) - 3);
        } else {
            resize(1 + random.nextInt(4));
        }
    }

    private void constrain() {
        int p = random.nextInt(6);
        int q = (p + 1 + random.nextInt(5)) % 6;
        int[] added = {p, q, random.nextInt(5) - 2, random.nextInt(2), random.nextInt(4)};
        int free = 0;
        while (constraints[free] != null) {
            free++;
        }
        constraints[free] = added;
        int[] found = search(null);
        if (found == null) {
            constraints[free] = null;
        } else {
            places = found;
        }
        int got = view.constrain(EDGES[p] + axis, EDGES[q] + axis, added[2], added[3], added[4]);
        CHECK.due("constrain" + java.util.Arrays.toString(added), got, found == null ? -3 : free);
    }

    private void remove(int number) {
        boolean there = constraints[number] != null;
        constraints[number] = null;
        if (there) {
            places = search(null);
        }
        CHECK.due("remove(" + number + ")", view.remove(number), there);
    }

    private void suggest(int edge, int place) {
        places = search(new int[] {edge, place});
        CHECK.due("suggest(" + edge + ", " + place + ")", view.suggest(EDGES[edge] + axis, place), true);
    }

    private void resize(int newSize) {
        int oldSize = size;
        size = newSize;
        int[] found = search(null);
        if (found == null) {
            size = oldSize;
        } else {
            places = found;
        }
        boolean got = axis == 0 ? view.resize(newSize, 3) : view.resize(3, newSize);
        CHECK.due("resize to " + newSize, got, found != null);
    }

    private void comparePlaces() {
        for (int i = 0; i < EDGES.length; i++) {
            CHECK.due("place(" + (EDGES[i] + axis) + ")", view.place(EDGES[i] + axis), places[i]);
        }
    }

    private int[] search(int[] suggestion) {
        List<int[]> wishes = wishes();
        int[] best = null;
        for (int a = -REACH; a <= REACH; a++) {
            for (int b = a; b <= REACH; b++) {
                for (int c = -REACH; c <= REACH; c++) {
                    for (int d = c; d <= REACH; d++) {
                        int[] choice = {0, size, a, b, c, d};
                        if (counts(choice) && (best == null || isBetter(choice, best, wishes, suggestion))) {
                            best = choice;
                        }
                    }
                }
            }
        }
        return best;
    }

    /** The constraints that are not required, in the order in which they are looked at. */
    private List<int[]> wishes() {
        List<int[]> wishes = new ArrayList<>();
        for (int strength = 1; strength <= 3; strength++) {
            for (int[] constraint : constraints) {
                if (constraint != null && constraint[4] == strength) {
                    wishes.add(constraint);
                }
            }
        }
        return wishes;
    }

    private boolean counts(int[] choice) {
        for (int[] constraint : constraints) {
            if (constraint != null && constraint[4] == 0 && error(constraint, choice) != 0) {
                return false;
            }
        }
        return true;
    }

    private static int error(int[] constraint, int[] choice) {
        int difference = choice[constraint[0]] - choice[constraint[1]];
        if (constraint[3] == 0) {
            return Math.abs(difference - constraint[2]);
        }
        return Math.max(0, constraint[2] - difference);
    }

    private boolean isBetter(int[] choice, int[] other, List<int[]> wishes, int[] suggestion) {
        int less = 0;
        if (suggestion != null) {
            less = Math.abs(choice[suggestion[0]] - suggestion[1]) - Math.abs(other[suggestion[0]] - suggestion[1]);
        }
        for (int i = 0; i < wishes.size() && less == 0; i++) {
            less = error(wishes.get(i), choice) - error(wishes.get(i), other);
        }
        for (int i = 0; i < places.length && less == 0; i++) {
            less = Math.abs(choice[i] - places[i]) - Math.abs(other[i] - places[i]);
        }
        return less < 0;
    }
}

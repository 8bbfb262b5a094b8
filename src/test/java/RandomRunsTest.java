import java.util.Random;

/** All promises: runs of 512 calls, the same ones each time, whose answers must be those of the model. */
public final class RandomRunsTest {
    private static final int RUNS = 160;
    private static final int CALLS = 512;
    private static final int[] EXTREMES = {
        Integer.MIN_VALUE, Integer.MAX_VALUE, -100, 100, -99, 99, -1, 6, 16, 24, 25,
    };
    private static final Check CHECK = new Check();

    private final Random random;
    private final DamageView view;
    private final Model model;
    private final int reach;
    private int boxes = 1;

    private RandomRunsTest(int seed) {
        random = new Random(seed);
        // Small numbers make constraints that touch one another; great ones go to the limits.
        reach = new int[] {4, 12, 30, 99}[seed % 4];
        int width = random.nextInt(5) == 0 ? extreme() : 1 + random.nextInt(24);
        int height = random.nextInt(5) == 0 ? extreme() : 1 + random.nextInt(16);
        view = new DamageView(width, height);
        model = new Model(width, height);
    }

    public static void main(String[] args) {
        for (int seed = 0; seed < RUNS; seed++) {
            CHECK.part("run " + seed);
            RandomRunsTest run = new RandomRunsTest(seed);
            for (int call = 0; call < CALLS; call++) {
                run.call(run.random.nextInt(100));
            }
        }
        CHECK.end();
    }

    private void call(int kind) {
        if (kind < 44) {
            change(kind);
        } else if (kind < 62) {
            point(kind);
        } else {
            ask(kind);
        }
    }

    private void change(int kind) {
        if (kind < 4) {
            box(number(0, 2), number(0, boxes - 1));
        } else if (kind < 16) {
            constrain(edge(), edge(), number(-reach, reach), number(0, 1), number(0, 3));
        } else if (kind < 20) {
            int constraint = number(0, 15);
            CHECK.due("remove(" + constraint + ")", view.remove(constraint), model.remove(constraint));
        } else if (kind < 33) {
            suggest(edge(), random.nextInt(3) == 0 ? number(-reach, reach) : number(0, 24));
        } else if (kind < 36) {
            int width = number(1, 24);
            int height = number(1, 16);
            CHECK.due("resize(" + width + ", " + height + ")",
                    view.resize(width, height), model.resize(width, height));
        } else if (kind < 40) {
            int box = number(0, boxes - 1);
            boolean on = random.nextInt(3) == 0;
            CHECK.due("hide(" + box + ", " + on + ")", view.hide(box, on), model.hide(box, on));
        } else {
            int box = number(0, boxes - 1);
            CHECK.due("raise(" + box + ")", view.raise(box), model.raise(box));
        }
    }

    private void box(int kind, int parent) {
        int box = view.box(kind, parent);
        CHECK.due("box(" + kind + ", " + parent + ")", box, model.box(kind, parent));
        boxes = Math.max(boxes, box + 1);
    }

    private void constrain(int p, int q, int c, int form, int strength) {
        CHECK.due("constrain(" + p + ", " + q + ", " + c + ", " + form + ", " + strength + ")",
                view.constrain(p, q, c, form, strength), model.constrain(p, q, c, form, strength));
    }

    private void suggest(int edge, int place) {
        CHECK.due("suggest(" + edge + ", " + place + ")",
                view.suggest(edge, place), model.suggest(edge, place));
    }

    private void point(int kind) {
        int x = number(0, 23);
        int y = number(0, 15);
        String at = "(" + x + ", " + y + ")";
        if (kind < 50) {
            CHECK.due("press" + at, view.press(x, y), model.press(x, y));
        } else if (kind < 56) {
            CHECK.due("release" + at, view.release(x, y), model.release(x, y));
        } else if (kind < 59) {
            boolean back = random.nextBoolean();
            CHECK.due("step(" + back + ")", view.step(back), model.step(back));
        } else {
            CHECK.due("key()", view.key(), model.key());
        }
    }

    private void ask(int kind) {
        int x = number(0, 23);
        int y = number(0, 15);
        if (kind < 70) {
            int edge = edge();
            CHECK.due("place(" + edge + ")", view.place(edge), model.place(edge));
        } else if (kind < 75) {
            int constraint = number(0, 15);
            CHECK.due("error(" + constraint + ")", view.error(constraint), model.error(constraint));
        } else if (kind < 79) {
            CHECK.due("hit(" + x + ", " + y + ")", view.hit(x, y), model.hit(x, y));
        } else if (kind < 83) {
            CHECK.due("attention()", view.attention(), model.attention());
        } else if (kind < 86) {
            int box = number(0, boxes - 1);
            CHECK.due("count(" + box + ")", view.count(box), model.count(box));
        } else if (kind < 92) {
            CHECK.due("damage()", view.damage(), model.damage());
        } else if (kind < 96) {
            CHECK.due("paint()", view.paint(), model.paint());
        } else {
            CHECK.due("pixel(" + x + ", " + y + ")", view.pixel(x, y), model.pixel(x, y));
        }
    }

    private int edge() {
        return number(0, 4 * boxes - 1);
    }

    private int extreme() {
        return EXTREMES[random.nextInt(EXTREMES.length)];
    }

    private int number(int least, int most) {
        return random.nextInt(40) == 0 ? extreme() : least + random.nextInt(most - least + 1);
    }
}

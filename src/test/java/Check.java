/** Compares answers with those that are due, tells the wrong ones, and ends with exit code 1 if there was one. */
final class Check {
    private String part = "";
    private int wrong;

    void part(String name) {
        part = name;
    }

    void due(String call, long got, long want) {
        if (got != want) {
            wrong++;
            System.out.println(part + ": " + call + " answered " + got + ", due is " + want);
        }
    }

    void due(String call, boolean got, boolean want) {
        due(call, got ? 1 : 0, want ? 1 : 0);
    }

    void end() {
        System.out.println(wrong == 0 ? "all answers are as due" : wrong + " answers are not as due");
        if (wrong != 0) {
            System.exit(1);
        }
    }

    /** Places a box that no constraint holds. */
    static void spread(DamageView view, int box, int left, int right, int top, int bottom) {
        view.suggest(4 * box, left);
        view.suggest(4 * box + 1, right);
        view.suggest(4 * box + 2, top);
        view.suggest(4 * box + 3, bottom);
    }

    void places(DamageView view, int box, int... want) {
        for (int side = 0; side < want.length; side++) {
            int edge = 4 * box + side;
            due("place(" + edge + ")", view.place(edge), want[side]);
        }
    }
}

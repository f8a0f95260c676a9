/** Compares answers with those that are due, prints the others, and ends with exit code 1 if there were any. */
final class Check {
    static final int BAD = -1000000001, NO = -1000000002, FULL = -1000000003, NONE = -1000000005;

    private int asked = 0;
    private int wrong = 0;

    void due(String call, long got, long want) {
        asked++;
        if (got != want) {
            wrong++;
            System.out.println(call + " answered " + got + ", due is " + want);
        }
    }

    /** One row of answers, so that a test can say what a whole state looks like. */
    void row(String what, int[] got, int... want) {
        due(what + ", how many", got.length, want.length);
        for (int i = 0; i < Math.min(got.length, want.length); i++) {
            due(what + " [" + i + "]", got[i], want[i]);
        }
    }

    /** x, y, width and height of a window, behind its screen. */
    static int[] area(WindowDesk desk, int window) {
        return new int[] {desk.area(window, 0), desk.area(window, 1), desk.area(window, 2),
            desk.area(window, 3), desk.area(window, 4)};
    }

    /** The tabs of a leaf, behind the one that is shown. */
    static int[] leaf(WindowDesk desk, int s, int i) {
        int tabs = Math.max(0, desk.tab(s, i, -1));
        int[] row = new int[tabs + 1];
        row[0] = desk.tab(s, i, -2);
        for (int k = 0; k < tabs; k++) {
            row[k + 1] = desk.tab(s, i, k);
        }
        return row;
    }

    static int[] focusRow(WindowDesk desk) {
        return rowBy(desk, 5, desk.count(1));
    }

    static int[] stack(WindowDesk desk) {
        return rowBy(desk, 6, desk.count(3));
    }

    private static int[] rowBy(WindowDesk desk, int what, int size) {
        int[] row = new int[size];
        java.util.Arrays.fill(row, -1);
        for (int window = 0; window < 10; window++) {
            int place = desk.about(window, what);
            if (place >= 0 && place < size) {
                row[place] = window;
            }
        }
        return row;
    }

    void end() {
        System.out.println(wrong == 0 ? asked + " answers are as due" : wrong + " answers are not as due");
        if (wrong != 0) {
            System.exit(1);
        }
    }
}

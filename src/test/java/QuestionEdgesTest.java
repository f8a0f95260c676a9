/** Promises 1, 13 (area) to 20 (count): what they refuse, their edges, and that asking changes nothing. */
public final class QuestionEdgesTest {
    private static final Runs runs = new Runs();

    /** Screen 1 has [0, 1, 2] | 6 TILED, 3 FLOATING, 4 a DIALOG of 2; 5 is STICKY; 0 to 4 are KEPT with screen 0. */
    private static final String DESK = """
            screen(0, 300, 200); open(1, 20, 25, -1) = 0; open(1, 30, 15, -1) = 1; open(1, 12, 35, -1) = 2
            drag(1, 0, 4)
            open(2, 50, 40, -1) = 3; open(3, 14, 16, 2) = 4; open(4, 60, 70, -1) = 5
            screen(1, 240, 120); gone(0) = 5; open(1, 8, 9, -1) = 6; leaf(1, 0) = 0 0 1 2; leaf(1, 1) = 6 6
            """;

    public static void main(String[] args) {
        aNewObject();
        areaOfEach();
        areaRefused();
        aboutEach();
        aboutRefused();
        isOfRefused();
        neighbourRefused();
        toldOfEach();
        toldOfAnEmptyTree();
        toldRefused();
        tabOfEach();
        tabNotSoMany();
        tabRefused();
        countEach();
        countAtTheEnds();
        countRefused();
        runs.end();
    }

    private static void aNewObject() {
        runs.changesNothing("No SCREENS, no WINDOWS", "", """
                count(0) = 0; count(1) = 0; count(2) = 0; count(3) = 0; count(4) = NONE; count(5) = 0
                area(0, 0) = BAD; about(0, 0) = BAD; isOf(0, 0) = BAD; neighbour(0, 0) = BAD; back() = NO
                toward(0) = NO
                told(0, 0) = NO; tab(0, 0, 0) = NO; at(0, 0, 0) = NO; gone(0) = NO; close(0) = BAD; focus(0) = BAD
                steps(0, 0) = BAD; drag(0, 1, 0) = BAD; move(0, 0, 0) = BAD; share(0, 0, 50) = BAD
                open(2, 5, 5, -1) = NO
                """);
    }

    private static void areaOfEach() {
        runs.changesNothing("what 0 its SCREEN, 1 x, 2 y, 3 width, 4 height", DESK, """
                area(0, 0) = 1; area(0, 1) = 0; area(0, 2) = 0; area(0, 3) = 120; area(0, 4) = 120
                area(2, 0) = 1; area(2, 1) = 0; area(2, 2) = 0; area(2, 3) = 120; area(2, 4) = 120
                area(6, 0) = 1; area(6, 1) = 120; area(6, 2) = 0; area(6, 3) = 120; area(6, 4) = 120
                area(3, 0) = 1; area(3, 1) = 30; area(3, 2) = 30; area(3, 3) = 50; area(3, 4) = 40
                area(4, 0) = 1; area(4, 3) = 14; area(4, 4) = 16
                area(5, 0) = NONE; area(5, 1) = 50; area(5, 2) = 50; area(5, 3) = 60; area(5, 4) = 70
                """);
    }

    private static void areaRefused() {
        for (int what : new int[] {-1, 5, 6, Runs.FAR[0], Runs.FAR[1], Runs.FAR[2], Runs.FAR[3]}) {
            runs.changesNothing("BAD: what", DESK, """
                    area(0, %1$d) = BAD; area(3, %1$d) = BAD; area(5, %1$d) = BAD; area(7, %1$d) = BAD
                    """.formatted(what));
        }
        for (int window : new int[] {-1, 7, 9, 10, Runs.FAR[0], Runs.FAR[3]}) {
            runs.changesNothing("BAD: no such WINDOW", DESK, """
                    area(%1$d, 0) = BAD; area(%1$d, 4) = BAD; area(%1$d, 5) = BAD
                    """.formatted(window));
        }
    }

    private static void aboutEach() {
        runs.changesNothing("what 0 KIND, 1, 2 least sizes, 3 OWNER, 4 SHOWN, 5 THE FOCUS ROW, 6 THE STACK", DESK, """
                about(0, 0) = 1; about(0, 1) = 20; about(0, 2) = 25; about(0, 3) = NONE; about(0, 4) = 1
                about(0, 5) = 6; about(0, 6) = NONE
                about(1, 0) = 1; about(1, 1) = 30; about(1, 2) = 15; about(1, 3) = NONE; about(1, 4) = 0
                about(1, 5) = 4; about(1, 6) = NONE
                about(2, 0) = 1; about(2, 1) = 12; about(2, 2) = 35; about(2, 3) = NONE; about(2, 4) = 0
                about(2, 5) = 5; about(2, 6) = NONE
                about(3, 0) = 2; about(3, 1) = 50; about(3, 2) = 40; about(3, 3) = NONE; about(3, 4) = 1
                about(3, 5) = 3; about(3, 6) = 0
                about(4, 0) = 3; about(4, 1) = 14; about(4, 2) = 16; about(4, 3) = 2; about(4, 4) = 1
                about(4, 5) = 2; about(4, 6) = 1
                about(5, 0) = 4; about(5, 1) = 60; about(5, 2) = 70; about(5, 3) = NONE; about(5, 4) = 1
                about(5, 5) = 1; about(5, 6) = 2
                about(6, 0) = 1; about(6, 1) = 8; about(6, 2) = 9; about(6, 3) = NONE; about(6, 4) = 1
                about(6, 5) = 0; about(6, 6) = NONE
                """);
        runs.run("OWNER 0", "screen(0, 100, 100); open(1, 5, 5, -1); open(3, 5, 5, 0); about(1, 3) = 0");
        runs.run("FLOATING ones: 1, though they lie nowhere", """
                screen(0, 40, 40); open(4, 100, 100, -1); at(0, 0, 0) = NONE; about(0, 4) = 1
                """);
    }

    private static void aboutRefused() {
        for (int what : new int[] {-1, 7, 8, Runs.FAR[0], Runs.FAR[1], Runs.FAR[2], Runs.FAR[3]}) {
            runs.changesNothing("BAD: what", DESK, """
                    about(0, %1$d) = BAD; about(3, %1$d) = BAD; about(5, %1$d) = BAD; about(7, %1$d) = BAD
                    """.formatted(what));
        }
        for (int window : new int[] {-1, 7, 9, 10, Runs.FAR[0], Runs.FAR[3]}) {
            runs.changesNothing("BAD: no such WINDOW", DESK, """
                    about(%1$d, 0) = BAD; about(%1$d, 6) = BAD; about(%1$d, 7) = BAD
                    """.formatted(window));
        }
    }

    private static void isOfRefused() {
        for (int kind : new int[] {-1, 5, Runs.FAR[0], Runs.FAR[3]}) {
            runs.changesNothing("BAD: kind", DESK, """
                    isOf(0, %1$d) = BAD; isOf(5, %1$d) = BAD; isOf(7, %1$d) = BAD
                    """.formatted(kind));
        }
        for (int window : new int[] {-1, 7, 9, 10, Runs.FAR[0], Runs.FAR[3]}) {
            runs.changesNothing("BAD: no such WINDOW", DESK, """
                    isOf(%1$d, 0) = BAD; isOf(%1$d, 4) = BAD; isOf(%1$d, 5) = BAD
                    """.formatted(window));
        }
        runs.changesNothing("1, 0", DESK, """
                isOf(0, 0) = 1; isOf(0, 1) = 1; isOf(0, 2) = 0; isOf(4, 2) = 1; isOf(4, 3) = 1; isOf(4, 4) = 0
                isOf(5, 2) = 1; isOf(5, 3) = 0; isOf(5, 4) = 1
                """);
    }

    private static void neighbourRefused() {
        runs.changesNothing("BAD", DESK, """
                neighbour(0, -1) = BAD; neighbour(0, 4) = BAD; neighbour(7, 0) = BAD; neighbour(-1, 3) = BAD
                neighbour(10, 0) = BAD
                """);
        runs.changesNothing("BAD ahead of NO", DESK, """
                neighbour(1, 4) = BAD; neighbour(3, -1) = BAD; neighbour(5, 4) = BAD
                """);
        runs.changesNothing("NO: not TILED, or not SHOWN", DESK, """
                neighbour(1, 0) = NO; neighbour(2, 1) = NO; neighbour(3, 0) = NO; neighbour(4, 1) = NO
                neighbour(5, 2) = NO
                """);
        runs.changesNothing("NONE", DESK, """
                neighbour(0, 0) = NONE; neighbour(0, 1) = 6; neighbour(6, 0) = 0; neighbour(6, 1) = NONE
                neighbour(0, 2) = NONE; neighbour(6, 3) = NONE
                """);
    }

    private static void toldOfEach() {
        runs.changesNothing("what 0, 1 sizes, 2 LEAVES, 3 CUTS, 4, 5 LEAST, 6 FLOATING ones (not STICKY)", DESK, """
                told(1, 0) = 240; told(1, 1) = 120; told(1, 2) = 2; told(1, 3) = 1; told(1, 4) = 38; told(1, 5) = 35
                told(1, 6) = 2
                """);
        StringBuilder ten = new StringBuilder("screen(2, 400, 300)\n");
        for (int i = 0; i <= 9; i++) {
            ten.append("told(2, 2) = %1$d; told(2, 3) = %2$d; open(1, 1, 1, -1) = %1$d\n"
                    .formatted(i, Math.max(0, i - 1)));
        }
        runs.run("up to ten LEAVES and nine CUTS", ten + "told(2, 2) = 10; told(2, 3) = 9; told(2, 6) = 0");
        runs.run("FLOATING ones of this SCREEN", """
                screen(0, 100, 100); screen(1, 100, 100); open(2, 5, 5, -1); open(3, 5, 5, 0); gone(0) = 2
                open(2, 5, 5, -1); told(1, 6) = 3
                screen(0, 100, 100) = 2; told(0, 6) = 2; told(1, 6) = 1; close(0); told(0, 6) = 0
                """);
    }

    private static void toldOfAnEmptyTree() {
        runs.changesNothing("(0: empty)", "screen(0, 41, 42); open(2, 5, 5, -1)", """
                told(0, 0) = 41; told(0, 1) = 42; told(0, 2) = 0; told(0, 3) = 0; told(0, 4) = 0; told(0, 5) = 0
                told(0, 6) = 1
                """);
    }

    private static void toldRefused() {
        for (int what : new int[] {-1, 7, 8, Runs.FAR[0], Runs.FAR[3]}) {
            runs.changesNothing("BAD: what, ahead of NO: MISSING", DESK, """
                    told(1, %1$d) = BAD; told(0, %1$d) = BAD; told(2, %1$d) = BAD; told(3, %1$d) = BAD
                    """.formatted(what));
        }
        for (int what = 0; what <= 6; what++) {
            runs.changesNothing("NO: MISSING", DESK, """
                    told(0, %1$d) = NO; told(2, %1$d) = NO; told(3, %1$d) = BAD; told(-1, %1$d) = BAD
                    """.formatted(what));
        }
    }

    private static void tabOfEach() {
        runs.changesNothing("TAB k of LEAF i (k -1: how many; -2: which is SHOWN)", DESK, """
                tab(1, 0, 0) = 0; tab(1, 0, 1) = 1; tab(1, 0, 2) = 2; tab(1, 0, -1) = 3; tab(1, 0, -2) = 0
                tab(1, 1, 0) = 6; tab(1, 1, -1) = 1; tab(1, 1, -2) = 6
                """);
    }

    private static void tabNotSoMany() {
        runs.changesNothing("NONE: there are not so many", DESK, """
                tab(1, 0, 3) = NONE; tab(1, 0, 4) = NONE; tab(1, 1, 1) = NONE; tab(1, 0, 2147483647) = NONE
                tab(1, 2, 0) = NONE; tab(1, 2, -1) = NONE; tab(1, 2, -2) = NONE; tab(1, 3, 0) = NONE
                tab(1, 2147483647, 0) = NONE
                tab(1, 2147483647, -2) = NONE; tab(1, 2147483647, 2147483647) = NONE
                """);
        runs.changesNothing("an empty TREE", "screen(0, 100, 100)", """
                tab(0, 0, 0) = NONE; tab(0, 0, -1) = NONE; tab(0, 0, -2) = NONE; tab(0, 1, 0) = NONE
                """);
        StringBuilder ten = new StringBuilder("screen(0, 60, 60)\n");
        for (int i = 0; i <= 9; i++) {
            ten.append("open(1, 40, 40, -1) = %1$d\n".formatted(i));
        }
        runs.changesNothing("ten TABS", ten.toString(), """
                tab(0, 0, -1) = 10; tab(0, 0, 9) = 9; tab(0, 0, 10) = NONE; tab(0, 0, 0) = 0; tab(0, 0, -2) = 9
                tab(0, 1, 0) = NONE
                """);
    }

    private static void tabRefused() {
        for (int s : new int[] {-1, 3, Runs.FAR[0], Runs.FAR[3]}) {
            runs.changesNothing("BAD: screen", DESK, """
                    tab(%1$d, 0, 0) = BAD; tab(%1$d, -1, 0) = BAD; tab(%1$d, 0, -3) = BAD
                    """.formatted(s));
        }
        runs.changesNothing("BAD: i below 0", DESK, """
                tab(1, -1, 0) = BAD; tab(1, -1, -1) = BAD; tab(1, -1, -2) = BAD; tab(1, -2147483648, 0) = BAD
                tab(1, -2, 9) = BAD
                """);
        runs.changesNothing("BAD: k below -2", DESK, """
                tab(1, 0, -3) = BAD; tab(1, 0, -4) = BAD; tab(1, 0, -2147483648) = BAD
                """);
        runs.changesNothing("BAD ahead of NONE", DESK, """
                tab(1, 2, -3) = BAD; tab(1, 2147483647, -3) = BAD; tab(1, -1, 99) = BAD
                """);
        for (int s : new int[] {0, 2}) {
            runs.changesNothing("NO: MISSING, ahead of NONE", DESK, """
                    tab(%1$d, 0, 0) = NO; tab(%1$d, 0, -1) = NO; tab(%1$d, 0, -2) = NO; tab(%1$d, 9, 9) = NO
                    """.formatted(s));
            runs.changesNothing("BAD ahead of NO", DESK, """
                    tab(%1$d, -1, 0) = BAD; tab(%1$d, 0, -3) = BAD; tab(%1$d, -1, -3) = BAD
                    """.formatted(s));
        }
    }

    private static void countEach() {
        runs.changesNothing("0 SCREENS, 1 WINDOWS, 2 TILED, 3 FLOATING ones, 4 FOCUS, 5 with something KEPT", DESK, """
                count(0) = 1; count(1) = 7; count(2) = 4; count(3) = 3; count(4) = 6; count(5) = 1
                """);
    }

    private static void countAtTheEnds() {
        runs.run("SCREENS 0 to 3 and back", """
                count(0) = 0; screen(2, 50, 50); count(0) = 1; screen(0, 50, 50); count(0) = 2; screen(1, 50, 50)
                count(0) = 3; screen(1, 60, 50); count(0) = 3
                gone(0); count(0) = 2; gone(1); count(0) = 1; gone(2) = NO; count(0) = 1
                """);
        StringBuilder ten = new StringBuilder("screen(0, 100, 100); count(1) = 0; count(4) = NONE\n");
        for (int i = 0; i <= 9; i++) {
            ten.append("""
                    open(%1$d, 5, 5, -1) = %2$d; count(4) = %2$d; count(1) = %3$d; count(2) = %4$d; count(3) = %5$d
                    """.formatted(1 + i % 2, i, i + 1, i / 2 + 1, (i + 1) / 2));
        }
        runs.run("WINDOWS 0 to 10", ten + """
                open(1, 5, 5, -1) = FULL; count(1) = 10; count(2) = 5; count(3) = 5; close(9); count(1) = 9
                count(3) = 4; count(4) = 8
                """);
        runs.run("which has FOCUS: 0, and NONE", """
                screen(0, 100, 100); open(4, 5, 5, -1); count(4) = 0; close(0); count(4) = NONE
                """);
    }

    private static void countRefused() {
        for (int what : new int[] {-1, 6, 7, Runs.FAR[0], Runs.FAR[1], Runs.FAR[2], Runs.FAR[3]}) {
            runs.changesNothing("BAD: what", DESK, "count(%d) = BAD".formatted(what));
        }
    }
}

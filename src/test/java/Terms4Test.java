/** 'Terms', section 4: THE FOCUS ROW, NEIGHBOURS, THE SCREEN AT HAND; with promises 6 to 9. A method a sentence. */
public final class Terms4Test {
    private static final Runs runs = new Runs();

    /** 0 | (1 / 2). */
    private static final String THREE = """
            screen(0, 100, 100); open(1, 1, 1, -1) = 0; open(1, 1, 1, -1) = 1; open(1, 1, 1, -1) = 2
            """;
    /** (0 / 3) | (1 / 2). */
    private static final String FOUR = THREE + "open(1, 1, 1, -1) = 3; drag(3, 0, 3) = 0\n";

    public static void main(String[] args) {
        theFocusRowHasAllWindows();
        focusedGoesToTheFront();
        focusedIsShown();
        focusAnswersWhichHadIt();
        backFocusesTheSecond();
        backNeedsTwo();
        neighboursBeginWhereItEnds();
        neighboursHaveSomePointsOfTheBorder();
        theNeighbourHasTheMost();
        ofSeveralTheLeastNumber();
        neighboursAreShown();
        neighboursAreOfItsScreen();
        sidesAreZeroToThree();
        towardFocusesTheNeighbour();
        towardWithoutNeighbour();
        towardRefused();
        stepsAtLeast();
        stepsNoWay();
        stepsRefused();
        theScreenAtHandIsThatOfTheFirst();
        theScreenAtHandIsTheLeast();
        runs.end();
    }

    private static void theFocusRowHasAllWindows() {
        runs.run("THE FOCUS ROW has all WINDOWS, the one that has FOCUS first", """
                screen(0, 100, 100); count(4) = NONE; open(1, 5, 5, -1) = 0; focusRow() = 0; count(4) = 0
                open(2, 5, 5, -1) = 1; focusRow() = 1 0; open(3, 5, 5, 0) = 2; focusRow() = 2 1 0
                open(4, 5, 5, -1) = 3; focusRow() = 3 2 1 0; count(4) = 3
                about(3, 5) = 0; about(2, 5) = 1; about(1, 5) = 2; about(0, 5) = 3
                close(2); focusRow() = 3 1 0; open(2, 5, 5, -1) = 2; focusRow() = 2 3 1 0
                close(3); close(2); close(1); focusRow() = 0; close(0); count(4) = NONE
                """);
        runs.run("of all SCREENS", """
                screen(0, 100, 100); screen(1, 100, 100); open(1, 5, 5, -1) = 0; gone(0); open(1, 5, 5, -1) = 1
                focusRow() = 1 0
                screen(0, 100, 100) = 1; focusRow() = 1 0; gone(1) = 1; focusRow() = 1 0; screen(1, 100, 100) = 1
                focusRow() = 1 0
                """);
    }

    private static void focusedGoesToTheFront() {
        String four = """
                screen(0, 100, 100); open(2, 5, 5, -1); open(2, 5, 5, -1); open(2, 5, 5, -1); open(2, 5, 5, -1)
                """;
        runs.run("the last", four + "focusRow() = 3 2 1 0; focus(0) = 3; focusRow() = 0 3 2 1");
        runs.run("one in the middle", four + "focus(1) = 3; focusRow() = 1 3 2 0");
        runs.run("the second", four + "focus(2) = 3; focusRow() = 2 3 1 0");
        runs.run("the first", four + "focus(3) = 3; focusRow() = 3 2 1 0; count(4) = 3");
    }

    private static void focusedIsShown() {
        String tabs = """
                screen(0, 60, 60); open(1, 40, 40, -1); open(1, 40, 40, -1); open(1, 40, 40, -1); open(2, 5, 5, -1)
                """;
        runs.run("if it is TILED it is SHOWN", tabs + """
                leaf(0, 0) = 2 0 1 2; focus(0) = 3; leaf(0, 0) = 0 0 1 2; focus(1) = 0; leaf(0, 0) = 1 0 1 2
                focus(3) = 1; leaf(0, 0) = 1 0 1 2; focus(1) = 3; leaf(0, 0) = 1 0 1 2
                """);
        runs.run("by back(), too", tabs + """
                focus(0); focus(2); focus(3); back() = 2; leaf(0, 0) = 2 0 1 2; focus(0); back() = 2
                leaf(0, 0) = 2 0 1 2
                """);
        runs.run("only in its LEAF", THREE + """
                drag(2, 0, 4); open(1, 1, 1, -1) = 3; drag(3, 1, 4); leaf(0, 0) = 2 0 2; leaf(0, 1) = 3 1 3
                focus(0); leaf(0, 0) = 0 0 2; leaf(0, 1) = 3 1 3
                """);
    }

    private static void focusAnswersWhichHadIt() {
        runs.run("which had FOCUS", """
                screen(0, 100, 100); open(2, 5, 5, -1) = 0; focus(0) = 0; open(4, 5, 5, -1) = 1; focus(0) = 1
                focus(0) = 0; focus(1) = 0
                """);
        runs.changesNothing("BAD", "screen(0, 100, 100); open(2, 5, 5, -1) = 0; open(2, 5, 5, -1) = 1; close(0)",
                "focus(0) = BAD; focus(2) = BAD; focus(-1) = BAD; focus(10) = BAD");
        runs.changesNothing("BAD", "", "focus(0) = BAD");
    }

    private static void backFocusesTheSecond() {
        runs.run("The second of THE FOCUS ROW is FOCUSED: it", """
                screen(0, 100, 100); open(2, 5, 5, -1); open(2, 5, 5, -1); open(2, 5, 5, -1); focusRow() = 2 1 0
                back() = 1; focusRow() = 1 2 0; stack() = 0 2 1; back() = 2; focusRow() = 2 1 0; stack() = 0 1 2
                close(2); back() = 0; focusRow() = 0 1; stack() = 1 0
                """);
        runs.run("to another SCREEN, and to a STICKY one", """
                screen(0, 100, 100); screen(1, 100, 100); open(1, 5, 5, -1) = 0; gone(0); open(1, 5, 5, -1) = 1
                screen(0, 100, 100) = 1; open(4, 5, 5, -1) = 2; back() = 1; back() = 2; focus(0); back() = 2; back() = 0
                """);
    }

    private static void backNeedsTwo() {
        runs.changesNothing("there are not two: none", "", "back() = NO");
        runs.changesNothing("there are not two: a SCREEN only", "screen(0, 100, 100)", "back() = NO");
        runs.changesNothing("there are not two: one", "screen(0, 100, 100); open(2, 5, 5, -1) = 0", "back() = NO");
        runs.changesNothing("there are not two any more", """
                screen(0, 100, 100); open(2, 5, 5, -1); open(3, 5, 5, 0); close(1)
                """, "back() = NO");
        runs.run("there are two", """
                screen(0, 100, 100); open(2, 5, 5, -1); open(3, 5, 5, 0); back() = 0; back() = 1; close(0) = 2
                back() = NO
                """);
    }

    private static void neighboursBeginWhereItEnds() {
        runs.changesNothing("begins where its ends (ends where its begins)", FOUR, """
                neighbour(0, 0) = NONE; neighbour(0, 1) = 1; neighbour(0, 2) = NONE; neighbour(0, 3) = 3
                neighbour(1, 0) = 0; neighbour(1, 1) = NONE; neighbour(1, 2) = NONE; neighbour(1, 3) = 2
                neighbour(2, 0) = 3; neighbour(2, 1) = NONE; neighbour(2, 2) = 1; neighbour(2, 3) = NONE
                neighbour(3, 0) = NONE; neighbour(3, 1) = 2; neighbour(3, 2) = 0; neighbour(3, 3) = NONE
                """);
        runs.run("not one farther on: 0 | 1 | 2", THREE + """
                drag(2, 1, 1) = 0; neighbour(0, 1) = 1; neighbour(1, 1) = 2; neighbour(2, 1) = NONE
                neighbour(2, 0) = 1; neighbour(1, 0) = 0; neighbour(0, 0) = NONE
                """);
        runs.run("not one farther on: 0 / 1 / 2", THREE + """
                drag(1, 0, 3) = 0; drag(2, 1, 3) = 0; neighbour(0, 3) = 1; neighbour(1, 3) = 2; neighbour(2, 3) = NONE
                neighbour(2, 2) = 1; neighbour(1, 2) = 0; neighbour(0, 2) = NONE
                """);
        runs.changesNothing("alone", "screen(0, 100, 100); open(1, 5, 5, -1)",
                "neighbour(0, 0) = NONE; neighbour(0, 1) = NONE; neighbour(0, 2) = NONE; neighbour(0, 3) = NONE");
    }

    /** 0 ends at a, 1 at 50: of the point where four corners meet none has a part. */
    private static void neighboursHaveSomePointsOfTheBorder() {
        runs.run("a corner is no border", FOUR + """
                neighbour(3, 1) = 2; neighbour(2, 0) = 3; neighbour(2, 2) = 1; neighbour(1, 3) = 2
                neighbour(0, 1) = 1
                """);
        runs.run("one point of 0 at 2, fifty at 1", FOUR + """
                share(0, 1, 51); neighbour(0, 1) = 1; neighbour(2, 0) = 3; neighbour(1, 0) = 0; neighbour(3, 1) = 2
                """);
        runs.run("one point is enough", """
                screen(0, 40, 40); open(1, 1, 1, -1) = 0; open(1, 1, 1, -1) = 1; open(1, 1, 1, -1) = 2
                drag(2, 0, 2); share(2, 1, 10)
                open(1, 1, 1, -1) = 3; drag(3, 2, 2); share(3, 1, 10)
                box(3) = 0 0 0 20 1; box(2) = 0 0 1 20 3; box(0) = 0 0 4 20 36; box(1) = 0 20 0 20 40
                neighbour(3, 1) = 1; neighbour(2, 1) = 1; neighbour(1, 0) = 0
                """);
        runs.run("one point is enough, up and down", """
                screen(0, 40, 40); open(1, 1, 1, -1) = 0; open(1, 1, 1, -1) = 1; drag(1, 0, 3)
                open(1, 1, 1, -1) = 2; drag(2, 0, 0); share(2, 0, 10)
                open(1, 1, 1, -1) = 3; drag(3, 2, 0); share(3, 0, 10)
                box(3) = 0 0 0 1 20; box(2) = 0 1 0 3 20; box(0) = 0 4 0 36 20; box(1) = 0 0 20 40 20
                neighbour(3, 3) = 1; neighbour(1, 2) = 0
                """);
    }

    private static void theNeighbourHasTheMost() {
        int[] shares = {49, 50, 51};
        int[] right = {2, 1, 1};
        int[] left = {1, 0, 0};
        int[] up = {2, 0, 0};
        for (int i = 0; i < 3; i++) {
            runs.run("right: 0 | (1 / 2)", THREE + """
                    share(1, 1, %d); neighbour(0, 1) = %d
                    """.formatted(shares[i], right[i]));
            runs.run("left: (0 / 1) | 2", THREE + """
                    drag(1, 0, 3); share(1, 1, %d); neighbour(2, 0) = %d
                    """.formatted(shares[i], left[i]));
            runs.run("up: (0 | 2) / 1", """
                    screen(0, 100, 100); open(1, 1, 1, -1) = 0; open(1, 1, 1, -1) = 1; drag(1, 0, 3); focus(0)
                    open(1, 1, 1, -1) = 2
                    share(0, 0, %d); neighbour(1, 2) = %d
                    """.formatted(shares[i], up[i]));
            runs.run("down: 0 / (1 | 2)", """
                    screen(0, 100, 100); open(1, 1, 1, -1) = 0; open(1, 1, 1, -1) = 1; drag(1, 0, 3)
                    open(1, 1, 1, -1) = 2
                    share(1, 0, %d); neighbour(0, 3) = %d
                    """.formatted(shares[i], right[i]));
        }
        int[] cut = {59, 60, 61};
        int[] most = {1, 1, 2};
        int[] lower = {64, 65, 66};
        int[] ofTwo = {3, 0, 0};
        for (int i = 0; i < 3; i++) {
            runs.run("of the common border: 0 has 30 of 1 and 29, 30, 31 of 2", FOUR + """
                    share(1, 1, 30); share(0, 1, %d); neighbour(0, 1) = %d; neighbour(1, 0) = 0; neighbour(3, 1) = 2
                    """.formatted(cut[i], most[i]));
            runs.run("2 has 34, 35, 36 of 0 and 36, 35, 34 of 3", FOUR + """
                    share(1, 1, 30); share(0, 1, %d); neighbour(2, 0) = %d
                    """.formatted(lower[i], ofTwo[i]));
        }
    }

    private static void ofSeveralTheLeastNumber() {
        runs.run("the least, though it is lower: 0 | (2 / 1)", THREE + """
                drag(1, 2, 3) = 0; neighbour(0, 1) = 1; share(1, 1, 51); neighbour(0, 1) = 2; share(1, 1, 49)
                neighbour(0, 1) = 1
                """);
        runs.run("of three: 3 | (2 / (1 / 0))", """
                screen(0, 99, 90); open(1, 1, 1, -1) = 0; open(1, 1, 1, -1) = 1; open(1, 1, 1, -1) = 2
                open(1, 1, 1, -1) = 3
                drag(2, 3, 1); drag(1, 2, 3); drag(0, 1, 3); share(2, 1, 34); share(1, 1, 50)
                box(2) = 0 49 0 50 30; box(1) = 0 49 30 50 30; box(0) = 0 49 60 50 30
                neighbour(3, 1) = 0; share(1, 1, 52); box(1) = 0 49 30 50 31; neighbour(3, 1) = 1
                """);
    }

    private static void neighboursAreShown() {
        String tabs = THREE + "open(1, 1, 1, -1) = 3; drag(3, 1, 4); leaf(0, 1) = 3 1 3\n";
        runs.run("SHOWN ones", tabs + """
                neighbour(0, 1) = 2; neighbour(2, 2) = 3; focus(1); neighbour(2, 2) = 1; neighbour(0, 1) = 1
                """);
        runs.changesNothing("of a SHOWN TILED one", tabs, """
                neighbour(1, 0) = NO; neighbour(1, 1) = NO; neighbour(1, 2) = NO; neighbour(1, 3) = NO
                neighbour(3, 0) = 0
                """);
        runs.changesNothing("of a TILED one", THREE + """
                open(2, 5, 5, -1) = 3; open(3, 5, 5, 0) = 4; open(4, 5, 5, -1) = 5
                """,
                "neighbour(3, 0) = NO; neighbour(4, 1) = NO; neighbour(5, 3) = NO");
        runs.run("FLOATING ones are none", """
                screen(0, 100, 100); open(1, 5, 5, -1) = 0; open(1, 5, 5, -1) = 1; open(2, 50, 100, -1) = 2
                move(2, 50, 0); neighbour(0, 1) = 1; neighbour(1, 1) = NONE
                """);
    }

    private static void neighboursAreOfItsScreen() {
        runs.run("of its SCREEN", """
                screen(0, 100, 100); screen(1, 200, 100); open(1, 5, 5, -1) = 0; gone(0) = 1
                open(1, 5, 5, -1) = 1; open(1, 5, 5, -1) = 2; screen(0, 100, 100) = 1
                box(0) = 0 0 0 100 100; drag(2, 1, 1) = 0; box(2) = 1 100 0 100 100; box(1) = 1 0 0 100 100
                neighbour(0, 1) = NONE; neighbour(2, 0) = 1; neighbour(1, 1) = 2
                """);
    }

    private static void sidesAreZeroToThree() {
        runs.changesNothing("0 left, 1 right, 2 up, 3 down", FOUR + "open(2, 5, 5, -1) = 4", """
                neighbour(0, -1) = BAD; neighbour(0, 4) = BAD; neighbour(0, 2147483647) = BAD
                neighbour(0, -2147483648) = BAD
                neighbour(4, -1) = BAD; neighbour(4, 4) = BAD; neighbour(5, 0) = BAD; neighbour(5, 4) = BAD
                toward(-1) = BAD; toward(4) = BAD; toward(2147483647) = BAD; toward(-2147483648) = BAD
                """);
        runs.changesNothing("a side, with FOCUS on a SHOWN TILED one", FOUR, """
                toward(-1) = BAD; toward(4) = BAD; toward(5) = BAD
                """);
    }

    private static void towardFocusesTheNeighbour() {
        runs.run("THE NEIGHBOUR of the one that has FOCUS is FOCUSED: it", FOUR + """
                count(4) = 3; toward(2) = 0; count(4) = 0; focusRow() = 0 3 2 1; toward(1) = 1; focusRow() = 1 0 3 2
                toward(3) = 2; toward(0) = 3; focusRow() = 3 2 1 0
                """);
        runs.run("a SHOWN one, that stays it", THREE + """
                open(1, 1, 1, -1) = 3; drag(3, 1, 4); focus(2); toward(2) = 3; leaf(0, 1) = 3 1 3; count(4) = 3
                """);
    }

    private static void towardWithoutNeighbour() {
        runs.changesNothing("NONE: it has none there", FOUR, "toward(0) = NONE; toward(3) = NONE");
        runs.changesNothing("NONE: it has none there", FOUR + "focus(1)", "toward(1) = NONE; toward(2) = NONE");
        runs.changesNothing("alone", "screen(0, 100, 100); open(1, 5, 5, -1)", """
                toward(0) = NONE; toward(1) = NONE; toward(2) = NONE; toward(3) = NONE
                """);
    }

    private static void towardRefused() {
        runs.changesNothing("there is no WINDOW", "", """
                toward(0) = NO; toward(3) = NO; toward(4) = BAD; toward(-1) = BAD
                """);
        runs.changesNothing("there is no WINDOW", "screen(0, 100, 100)", "toward(0) = NO; toward(4) = BAD");
        runs.changesNothing("there is no WINDOW any more", "screen(0, 100, 100); open(1, 5, 5, -1) = 0; close(0)", """
                toward(0) = NO; toward(4) = BAD
                """);
        for (int kind = 2; kind <= 4; kind++) {
            runs.changesNothing("it is not TILED", FOUR + "open(%d, 5, 5, %d) = 4".formatted(kind, kind == 3 ? 0 : -1),
                    """
                    toward(0) = NO; toward(1) = NO; toward(2) = NO; toward(3) = NO; toward(4) = BAD
                    toward(-1) = BAD
                    """);
        }
        // A TAB that leaves FOCUS to a hidden one: the one behind it is SHOWN, the one that had FOCUS before has it.
        runs.changesNothing("or not SHOWN", """
                screen(0, 100, 60); open(1, 60, 40, -1); open(1, 60, 40, -1); open(1, 60, 40, -1)
                focus(0); focus(1); close(1); leaf(0, 0) = 2 0 2; count(4) = 0
                """, "toward(0) = NO; toward(1) = NO; toward(2) = NO; toward(3) = NO; toward(4) = BAD");
    }

    private static void stepsAtLeast() {
        StringBuilder row = new StringBuilder("screen(0, 400, 40); open(1, 1, 1, -1) = 0\n");
        for (int i = 1; i <= 9; i++) {
            row.append("open(1, 1, 1, -1) = %1$d; drag(%1$d, %2$d, 1) = 0\n".formatted(i, i - 1));
        }
        for (int i = 0; i <= 9; i++) {
            runs.changesNothing("ten in a row", row.toString(), """
                    steps(0, %1$d) = %1$d; steps(%1$d, 0) = %1$d; steps(%1$d, %1$d) = 0; steps(9, %1$d) = %2$d
                    """.formatted(i, 9 - i));
        }
        runs.changesNothing("by THE NEIGHBOURS alone: 0 | (1 / 2)", THREE, """
                steps(0, 1) = 1; steps(0, 2) = 2; steps(2, 0) = 1; steps(1, 0) = 1; steps(1, 2) = 1; steps(2, 1) = 1
                """);
        runs.run("the shortest way", FOUR + """
                steps(0, 2) = 2; steps(0, 3) = 1; steps(3, 1) = 2; share(1, 1, 10); steps(0, 2) = 1; steps(2, 0) = 2
                steps(3, 1) = 2
                """);
        runs.run("one point more makes it longer", THREE + """
                share(1, 1, 49); steps(0, 2) = 1; steps(0, 1) = 2; share(1, 1, 50); steps(0, 2) = 2; steps(0, 1) = 1
                """);
    }

    private static final String APART = """
            screen(0, 100, 100); screen(1, 100, 100); open(1, 40, 40, -1) = 0; gone(0) = 1
            open(1, 40, 40, -1) = 1; screen(0, 100, 100) = 1; open(2, 5, 5, -1) = 2
            """;

    private static void stepsNoWay() {
        runs.changesNothing("NONE: there is no way", APART, """
                steps(0, 1) = NONE; steps(1, 0) = NONE; steps(0, 0) = 0; steps(1, 1) = 0
                """);
    }

    private static void stepsRefused() {
        runs.changesNothing("BAD: no such WINDOWS", APART, """
                steps(-1, 0) = BAD; steps(0, -1) = BAD; steps(3, 0) = BAD; steps(0, 3) = BAD; steps(10, 10) = BAD
                steps(3, 3) = BAD
                steps(2, 3) = BAD; steps(3, 2) = BAD
                """);
        runs.changesNothing("NO: one is not TILED", APART, "steps(2, 0) = NO; steps(0, 2) = NO; steps(2, 2) = NO");
        runs.changesNothing("NO: one is not SHOWN", APART + """
                drag(0, 1, 4) = 0; open(1, 1, 1, -1) = 3; leaf(1, 0) = 0 1 0
                """,
                """
                steps(1, 0) = NO; steps(0, 1) = NO; steps(1, 1) = NO; steps(1, 3) = NO; steps(3, 1) = NO
                steps(0, 3) = 1; steps(3, 0) = 1; steps(1, 4) = BAD; steps(4, 1) = BAD
                """);
        runs.changesNothing("NO ahead of NONE", APART + """
                gone(0) = 1; open(1, 5, 5, -1) = 3; drag(3, 1, 4) = 0; screen(0, 100, 100) = 1; leaf(1, 0) = 3 1 3
                area(0, 0) = 0
                """,
                "steps(0, 1) = NO; steps(1, 0) = NO; steps(0, 3) = NONE; steps(3, 0) = NONE");
    }

    private static void theScreenAtHandIsThatOfTheFirst() {
        runs.run("that of the first WINDOW of THE FOCUS ROW", APART + """
                focus(1); open(2, 5, 5, -1) = 3; area(3, 0) = 1
                """);
        runs.run("whatever its number", APART + """
                focus(0); open(2, 5, 5, -1) = 3; area(3, 0) = 0; open(1, 5, 5, -1) = 4; area(4, 0) = 0; focus(2)
                open(2, 5, 5, -1) = 5; area(5, 0) = 1
                """);
        runs.run("that is not STICKY", APART + """
                focus(0); open(4, 5, 5, -1) = 3; open(4, 5, 5, -1) = 4; open(2, 5, 5, -1) = 5; area(5, 0) = 0
                """);
        runs.run("that is not STICKY, on the greater SCREEN", APART + """
                focus(1); open(4, 5, 5, -1) = 3; open(1, 5, 5, -1) = 4; area(4, 0) = 1
                """);
        runs.run("a DIALOG counts", APART + "open(3, 5, 5, 0) = 3; open(2, 5, 5, -1) = 4; area(4, 0) = 0");
        runs.run("the next, when the first is closed", APART + """
                focus(0); focus(2); focusRow() = 2 0 1; close(2); open(2, 5, 5, -1) = 2; area(2, 0) = 0
                """);
        runs.run("where it is now", APART + """
                focus(0); gone(0) = 1; open(2, 5, 5, -1) = 3; area(3, 0) = 1; focus(0); screen(0, 100, 100) = 1
                open(2, 5, 5, -1) = 4; area(4, 0) = 0
                """);
    }

    private static void theScreenAtHandIsTheLeast() {
        runs.run("the only one", "screen(2, 100, 100); open(2, 5, 5, -1) = 0; area(0, 0) = 2");
        runs.run("1 of 1 and 2", "screen(2, 100, 100); screen(1, 100, 100); open(1, 5, 5, -1) = 0; area(0, 0) = 1");
        runs.run("0 of 0 and 2", "screen(2, 100, 100); screen(0, 100, 100); open(1, 5, 5, -1) = 0; area(0, 0) = 0");
        runs.run("0 of all", """
                screen(1, 100, 100); screen(2, 100, 100); screen(0, 100, 100); open(1, 5, 5, -1) = 0; area(0, 0) = 0
                """);
        runs.run("1, once 0 has gone", """
                screen(1, 100, 100); screen(2, 100, 100); screen(0, 100, 100); gone(0); open(1, 5, 5, -1) = 0
                area(0, 0) = 1
                """);
        runs.run("if there are only STICKY ones", """
                screen(2, 100, 100); open(4, 5, 5, -1) = 0; screen(1, 100, 100); open(2, 5, 5, -1) = 1
                area(1, 0) = 1
                """);
        runs.run("if there are only STICKY ones again", """
                screen(2, 100, 100); open(4, 5, 5, -1) = 0; open(2, 5, 5, -1) = 1; area(1, 0) = 2
                screen(0, 100, 100); close(1); open(2, 5, 5, -1) = 1; area(1, 0) = 0
                """);
        runs.run("if there is none again", """
                screen(2, 100, 100); open(2, 5, 5, -1) = 0; area(0, 0) = 2; screen(1, 100, 100); close(0)
                open(2, 5, 5, -1) = 0; area(0, 0) = 1
                """);
        runs.run("not the least, if there is one", """
                screen(2, 100, 100); open(2, 5, 5, -1) = 0; screen(0, 100, 100); open(2, 5, 5, -1) = 1
                area(1, 0) = 2
                """);
    }
}

/** Promises 10 (drag), 11 (move) and 12 (share): what they refuse, and their edges. A method a sentence. */
public final class HandEdgesTest {
    private static final Runs runs = new Runs();

    /** 0 | (1 / 2) TILED, 3 FLOATING, 4 a DIALOG of 0, 5 STICKY, and 0 to 4 KEPT with screen 1. */
    private static final String ALL = """
            screen(1, 200, 100); open(1, 5, 5, -1) = 0; open(1, 5, 5, -1) = 1; open(1, 5, 5, -1) = 2; drag(2, 1, 3) = 0
            open(2, 9, 9, -1) = 3; open(3, 9, 9, 0) = 4; open(4, 9, 9, -1) = 5
            screen(0, 200, 100); gone(1) = 5; leaf(0, 0) = 0 0 1 2; count(5) = 1
            """;

    /** 0, with the DIALOG 2 and that one's DIALOG 3, on screen 0; 1 on screen 1, which is 120 x 90. */
    private static final String APART = """
            screen(0, 300, 200); screen(1, 300, 200); open(1, 20, 30, -1) = 0; gone(0) = 1; open(1, 40, 50, -1) = 1
            screen(0, 300, 200) = 1; screen(1, 120, 90); open(3, 10, 10, 0) = 2; open(3, 10, 10, 2) = 3
            """;

    public static void main(String[] args) {
        dragBad();
        dragNotTiled();
        dragBadAheadOfNo();
        dragSides();
        dragToTheLastTab();
        dragCutsTheWholeLeaf();
        dragFitsAcross();
        dragFitsDown();
        dragFitsAsTab();
        dragLeavesFirst();
        dragBetweenScreensFits();
        dragDialogsMustBeWhole();
        dragDialogsArePut();
        dragIsFocused();
        moveBad();
        moveNotFloating();
        moveIsNotFocused();
        shareBad();
        shareNotTiled();
        shareNoSuchCut();
        shareOfTheNearestCut();
        runs.end();
    }

    private static void dragBad() {
        for (int window : new int[] {-1, 6, 9, 10, Runs.FAR[0], Runs.FAR[3]}) {
            runs.changesNothing("no such WINDOWS", ALL, """
                    drag(%1$d, 0, 0) = BAD; drag(0, %1$d, 0) = BAD; drag(%1$d, %1$d, 0) = BAD; drag(%1$d, 0, 4) = BAD
                    """.formatted(window));
        }
        for (int window = 0; window <= 5; window++) {
            runs.changesNothing("the same", ALL, """
                    drag(%1$d, %1$d, 0) = BAD; drag(%1$d, %1$d, 4) = BAD
                    """.formatted(window));
        }
        for (int side : new int[] {-1, 5, -2, 6, Runs.FAR[0], Runs.FAR[1], Runs.FAR[2], Runs.FAR[3]}) {
            runs.changesNothing("side", ALL, "drag(0, 1, %1$d) = BAD; drag(1, 0, %1$d) = BAD".formatted(side));
        }
    }

    private static void dragNotTiled() {
        for (int window = 3; window <= 5; window++) {
            for (int side = 0; side <= 4; side++) {
                runs.changesNothing("one is not TILED", ALL, """
                        drag(%1$d, 0, %2$d) = NO; drag(0, %1$d, %2$d) = NO
                        """.formatted(window, side));
            }
        }
        runs.changesNothing("both are not TILED", ALL, "drag(3, 4, 0) = NO; drag(4, 5, 4) = NO; drag(5, 3, 2) = NO");
    }

    private static void dragBadAheadOfNo() {
        runs.changesNothing("BAD ahead of NO", ALL, """
                drag(3, 3, 0) = BAD; drag(3, 6, 0) = BAD; drag(6, 3, 0) = BAD; drag(3, 0, 5) = BAD
                drag(0, 3, -1) = BAD; drag(3, 4, 5) = BAD
                """);
        runs.changesNothing("BAD ahead of NO: the TREE would not FIT", """
                screen(0, 50, 50); open(1, 40, 40, -1) = 0; open(1, 40, 40, -1) = 1
                """,
                "drag(0, 1, 5) = BAD; drag(0, 1, -1) = BAD; drag(0, 0, 0) = BAD; drag(0, 1, 0) = NO");
    }

    private static void dragSides() {
        String three = """
                screen(0, 120, 100); open(1, 5, 5, -1) = 0; open(1, 5, 5, -1) = 1; open(1, 5, 5, -1) = 2
                share(0, 0, 50)
                """;
        runs.run("0 left", three + """
                drag(2, 0, 0) = 0; box(2) = 0 0 0 30 100; box(0) = 0 30 0 30 100; box(1) = 0 60 0 60 100
                """);
        runs.run("1 right", three + """
                drag(2, 0, 1) = 0; box(0) = 0 0 0 30 100; box(2) = 0 30 0 30 100; box(1) = 0 60 0 60 100
                """);
        runs.run("2 above", three + """
                drag(2, 0, 2) = 0; box(2) = 0 0 0 60 50; box(0) = 0 0 50 60 50; box(1) = 0 60 0 60 100
                """);
        runs.run("3 below", three + """
                drag(2, 0, 3) = 0; box(0) = 0 0 0 60 50; box(2) = 0 0 50 60 50; box(1) = 0 60 0 60 100
                """);
        for (int side = 0; side <= 3; side++) {
            runs.run("CUT with SHARE 50", three + """
                    share(0, 0, 20); drag(2, 0, %1$d) = 0; share(2, %2$d, 33) = 50; share(1, 0, 33) = 20
                    told(0, 3) = 2; told(0, 2) = 3
                    """.formatted(side, side / 2));
        }
    }

    private static void dragToTheLastTab() {
        String three = "screen(0, 120, 100); open(1, 5, 5, -1) = 0; open(1, 5, 5, -1) = 1; open(1, 5, 5, -1) = 2\n";
        runs.run("4: it is its last TAB", three + """
                drag(2, 0, 4) = 0; leaf(0, 0) = 2 0 2; leaf(0, 1) = 1 1; told(0, 3) = 1
                """);
        runs.run("last, behind others", three + "drag(2, 0, 4); drag(1, 0, 4); leaf(0, 0) = 1 0 2 1; told(0, 2) = 1");
        runs.run("last of the LEAF where it was", three + """
                drag(2, 0, 4); drag(1, 0, 4); drag(0, 1, 4); leaf(0, 0) = 0 2 1 0; drag(0, 2, 4)
                leaf(0, 0) = 0 2 1 0
                """);
        runs.run("its first LEAF goes", three + """
                drag(0, 2, 4); leaf(0, 0) = 1 1; leaf(0, 1) = 0 2 0; box(1) = 0 0 0 120 50; box(0) = 0 0 50 120 50
                """);
    }

    private static void dragCutsTheWholeLeaf() {
        String tabs = """
                screen(0, 120, 100); open(1, 5, 5, -1) = 0; open(1, 5, 5, -1) = 1; open(1, 5, 5, -1) = 2
                open(1, 5, 5, -1) = 3
                drag(1, 0, 4); drag(2, 0, 4); leaf(0, 0) = 2 0 1 2; leaf(0, 1) = 3 3
                """;
        runs.run("the LEAF of the other is CUT, with all its TABS", tabs + """
                drag(3, 1, 2) = 0; leaf(0, 0) = 3 3; leaf(0, 1) = 2 0 1 2; box(0) = 0 0 50 120 50
                """);
        runs.run("out of the same LEAF", tabs + """
                drag(1, 0, 3) = 0; leaf(0, 0) = 2 0 2; leaf(0, 1) = 1 1; leaf(0, 2) = 3 3; box(0) = 0 0 0 60 50
                box(1) = 0 0 50 60 50
                """);
        runs.run("out of the same LEAF, the SHOWN one", tabs + """
                drag(2, 0, 0) = 0; leaf(0, 0) = 2 2; leaf(0, 1) = 1 0 1; leaf(0, 2) = 3 3
                """);
    }

    private static void dragFitsAcross() {
        for (int side = 0; side <= 1; side++) {
            String desk = "screen(0, 100, 80); open(1, 60, 30, -1) = 0; open(1, %d, 30, -1) = 1; drag(1, 0, 3) = 0\n";
            runs.run("60 + 40 of 100", desk.formatted(40) + "drag(1, 0, %d) = 0; told(0, 4) = 100".formatted(side));
            runs.run("60 + 39 of 100", desk.formatted(39) + "drag(1, 0, %d) = 0; told(0, 4) = 99".formatted(side));
            runs.changesNothing("60 + 41 of 100", desk.formatted(41), """
                    drag(1, 0, %d) = NO; drag(0, 1, %d) = NO
                    """.formatted(side, side));
        }
    }

    private static void dragFitsDown() {
        for (int side = 2; side <= 3; side++) {
            String desk = "screen(0, 100, 80); open(1, 30, 45, -1) = 0; open(1, 30, %d, -1) = 1; told(0, 4) = 60\n";
            runs.run("45 + 35 of 80", desk.formatted(35) + "drag(1, 0, %d) = 0; told(0, 5) = 80".formatted(side));
            runs.run("45 + 34 of 80", desk.formatted(34) + "drag(1, 0, %d) = 0; told(0, 5) = 79".formatted(side));
            runs.changesNothing("45 + 36 of 80", desk.formatted(36), """
                    drag(1, 0, %d) = NO; drag(0, 1, %d) = NO
                    """.formatted(side, side));
        }
    }

    /** The LEAF of 1 beside 0: as a TAB there 2 adds to the width or the height of the whole. */
    private static void dragFitsAsTab() {
        String desk = """
                screen(0, 200, 80); open(1, 60, 30, -1) = 0; open(1, 30, 30, -1) = 1; drag(1, 0, 1)
                open(1, %d, %d, -1) = 2; drag(2, 0, 4) = 0
                leaf(0, 0) = 2 0 2; leaf(0, 1) = 1 1
                """;
        runs.run("60 + 40 of 100", desk.formatted(40, 80) + """
                screen(0, 100, 80); drag(2, 1, 4) = 0; leaf(0, 1) = 2 1 2; told(0, 4) = 100; told(0, 5) = 80
                """);
        runs.run("60 + 39 of 100", desk.formatted(39, 79) + """
                screen(0, 100, 80); drag(2, 1, 4) = 0; told(0, 4) = 99; told(0, 5) = 79
                """);
        runs.changesNothing("60 + 41 of 100", desk.formatted(41, 80) + "screen(0, 100, 80)", """
                drag(2, 1, 4) = NO; drag(2, 1, 0) = NO; drag(2, 1, 2) = NO
                """);
    }

    private static void dragLeavesFirst() {
        runs.run("its TAB leaves, then the LEAF of the other is CUT", """
                screen(0, 100, 100); open(1, 50, 100, -1) = 0; open(1, 50, 100, -1) = 1; box(0) = 0 0 0 50 100
                drag(0, 1, 1) = 0; box(1) = 0 0 0 50 100; box(0) = 0 50 0 50 100; drag(0, 1, 0) = 0
                box(0) = 0 0 0 50 100
                """);
        String tabs = "screen(0, 100, 100); open(1, 60, 50, -1) = 0; open(1, 60, %d, -1) = 1; focus(0)\n";
        runs.run("with it gone there is room for 50 + 50", tabs.formatted(50) + """
                drag(0, 1, 3) = 0; box(1) = 0 0 0 100 50; box(0) = 0 0 50 100 50; drag(0, 1, 2) = 0
                box(0) = 0 0 0 100 50
                """);
        runs.changesNothing("but not for 50 + 51", tabs.formatted(51), """
                drag(0, 1, 3) = NO; drag(0, 1, 2) = NO; drag(1, 0, 3) = NO
                """);
        String wide = """
                screen(0, 200, 100); open(1, 90, 5, -1) = 0; open(1, 5, 5, -1) = 1; drag(1, 0, 4)
                open(1, 95, 5, -1) = 2; drag(2, 0, 1)
                told(0, 4) = 185
                """;
        runs.run("a wide TAB leaves its LEAF small: 5 + 95 + 90", wide + """
                screen(0, 190, 100); drag(0, 2, 1) = 0; told(0, 4) = 190
                """);
        runs.changesNothing("a point too much", wide + "screen(0, 189, 100)", "drag(0, 2, 1) = NO; drag(0, 2, 0) = NO");
    }

    private static void dragBetweenScreensFits() {
        String desk = """
                screen(0, 300, 200); screen(1, 300, 200); open(1, %d, %d, -1) = 0; gone(0) = 1; open(1, 40, 50, -1) = 1
                screen(0, 300, 200) = 1; screen(1, 120, 90)
                """;
        runs.run("80 + 40 of 120", desk.formatted(80, 5) + """
                drag(0, 1, 0) = 0; area(0, 0) = 1; told(1, 4) = 120; told(0, 2) = 0
                """);
        runs.changesNothing("81 + 40 of 120", desk.formatted(81, 5), "drag(0, 1, 0) = NO; drag(0, 1, 1) = NO");
        runs.run("40 + 50 of 90", desk.formatted(5, 40) + "drag(0, 1, 2) = 0; area(0, 0) = 1; told(1, 5) = 90");
        runs.changesNothing("41 + 50 of 90", desk.formatted(5, 41), "drag(0, 1, 2) = NO; drag(0, 1, 3) = NO");
        runs.run("a TAB of 120 x 90", desk.formatted(120, 90) + """
                drag(0, 1, 4) = 0; leaf(1, 0) = 0 1 0; told(0, 2) = 0
                """);
        runs.changesNothing("a TAB of 121 x 90", desk.formatted(121, 90), "drag(0, 1, 4) = NO");
        runs.changesNothing("a TAB of 120 x 91", desk.formatted(120, 91), "drag(0, 1, 4) = NO");
        runs.run("the TREE it leaves: SHOWN as if closed", desk.formatted(5, 5) + """
                focus(0); open(1, 5, 5, -1) = 2; open(1, 5, 5, -1) = 3; drag(2, 0, 4); drag(3, 0, 4); focus(2)
                leaf(0, 0) = 2 0 2 3
                drag(2, 1, 4) = 0; leaf(0, 0) = 3 0 3; leaf(1, 0) = 2 1 2; drag(3, 1, 2) = 0; leaf(0, 0) = 0 0
                leaf(1, 0) = 3 3
                """);
    }

    private static void dragDialogsMustBeWhole() {
        runs.run("just whole there", APART + "open(3, 120, 90, 0) = 4; drag(0, 1, 0) = 0; box(4) = 1 0 0 120 90");
        runs.changesNothing("a point too wide", APART + "open(3, 121, 90, 0) = 4", """
                drag(0, 1, 0) = NO; drag(0, 1, 4) = NO
                """);
        runs.changesNothing("a point too high", APART + "open(3, 120, 91, 0) = 4", """
                drag(0, 1, 0) = NO; drag(0, 1, 4) = NO
                """);
        runs.changesNothing("a DIALOG of a DIALOG, a point too wide", APART + "open(3, 121, 5, 3) = 4", """
                drag(0, 1, 0) = NO; drag(0, 1, 3) = NO
                """);
        runs.changesNothing("a DIALOG of a DIALOG, a point too high", APART + "open(3, 5, 91, 3) = 4", """
                drag(0, 1, 0) = NO; drag(0, 1, 3) = NO
                """);
        runs.run("one of another WINDOW does not matter", APART + """
                focus(0); open(1, 5, 5, -1) = 4; open(3, 121, 91, 4) = 5; drag(0, 1, 0) = 0; area(5, 0) = 0
                """);
        runs.run("one of the other does not matter", APART + """
                open(3, 121, 91, 0) = 4; drag(1, 0, 0) = 0; area(1, 0) = 0; area(4, 0) = 0
                """);
    }

    private static void dragDialogsArePut() {
        runs.run("DIALOGS come along, PUT at their places: just", APART + """
                move(2, 110, 80); move(3, 0, 0); drag(0, 1, 0) = 0; box(2) = 1 110 80 10 10; box(3) = 1 0 0 10 10
                told(0, 6) = 0; told(1, 6) = 2
                """);
        runs.run("a point farther", APART + """
                move(2, 111, 81); move(3, 290, 190); drag(0, 1, 0) = 0; box(2) = 1 110 80 10 10
                box(3) = 1 110 80 10 10
                """);
        runs.run("a point less far", APART + "move(2, 109, 79); drag(0, 1, 4) = 0; box(2) = 1 109 79 10 10");
        runs.run("if it is another SCREEN", APART + """
                move(2, 290, 190); focus(0); open(1, 5, 5, -1) = 4; drag(0, 4, 0) = 0; box(2) = 0 290 190 10 10
                """);
        runs.run("only its own", APART + """
                focus(0); open(2, 5, 5, -1) = 4; open(3, 5, 5, 4) = 5; drag(0, 1, 0) = 0; area(4, 0) = 0
                area(5, 0) = 0; area(3, 0) = 1
                """);
    }

    private static void dragIsFocused() {
        runs.run("It is FOCUSED", APART + """
                open(2, 5, 5, -1) = 4; focus(1); focusRow() = 1 4 3 2 0; stack() = 2 3 4; drag(0, 1, 4) = 0
                focusRow() = 0 1 4 3 2; stack() = 4 2 3; leaf(1, 0) = 0 1 0
                """);
        runs.run("the other is not", APART + "focus(1); drag(0, 1, 0) = 0; count(4) = 0; about(1, 5) = 1");
        runs.run("THE SCREEN AT HAND is the other's", APART + """
                drag(0, 1, 0) = 0; open(2, 5, 5, -1) = 4; area(4, 0) = 1
                """);
    }

    private static void moveBad() {
        for (int v : new int[] {1001, -1001, 1002, -1002, Runs.FAR[0], Runs.FAR[1], Runs.FAR[2], Runs.FAR[3]}) {
            runs.changesNothing("place of a size above 1000", ALL, """
                    move(3, %1$d, 0) = BAD; move(3, 0, %1$d) = BAD; move(3, %1$d, %1$d) = BAD
                    move(4, %1$d, 5) = BAD; move(5, 5, %1$d) = BAD
                    move(0, %1$d, 0) = BAD; move(0, 0, %1$d) = BAD; move(6, %1$d, 0) = BAD
                    """.formatted(v));
        }
        for (int v : new int[] {1000, 999, -999, -1000}) {
            runs.run("not above", ALL + """
                    move(3, %1$d, 7) = 0; box(3) = 0 %2$d 7 9 9; move(3, 7, %1$d) = 0; box(3) = 0 7 %3$d 9 9
                    """.formatted(v, v < 0 ? 0 : 191, v < 0 ? 0 : 91));
        }
        runs.changesNothing("no such WINDOW", ALL, "move(-1, 5, 5) = BAD; move(6, 5, 5) = BAD; move(10, 5, 5) = BAD");
    }

    private static void moveNotFloating() {
        runs.changesNothing("NO: it is not FLOATING", ALL, """
                move(0, 5, 5) = NO; move(1, 0, 0) = NO; move(2, 1000, -1000) = NO
                """);
        runs.run("DIALOGS and STICKY ones are", ALL + """
                move(4, 5, 6) = 0; box(4) = 0 5 6 9 9; move(5, 7, 8) = 0; box(5) = NONE 7 8 9 9
                """);
    }

    private static void moveIsNotFocused() {
        runs.run("(It is not FOCUSED.)", ALL + """
                focusRow() = 5 4 3 2 1 0; stack() = 3 4 5; move(3, 50, 50); move(4, 50, 50)
                focusRow() = 5 4 3 2 1 0; stack() = 3 4 5; count(4) = 5
                """);
        runs.run("its DIALOGS stay where they are", """
                screen(0, 100, 100); open(2, 20, 20, -1) = 0; open(3, 10, 10, 0) = 1; move(0, 70, 70)
                box(0) = 0 70 70 20 20; box(1) = 0 5 5 10 10
                """);
    }

    /** 0 | (1 / (2 | 3)). */
    private static final String CUTS = """
            screen(0, 200, 200); open(1, 1, 1, -1) = 0; open(1, 1, 1, -1) = 1; open(1, 1, 1, -1) = 2
            open(1, 1, 1, -1) = 3
            share(0, 0, 20) = 50; share(1, 1, 30) = 50; share(2, 0, 40) = 50; open(2, 9, 9, -1) = 4
            open(4, 9, 9, -1) = 5; open(3, 9, 9, 0) = 6
            """;

    private static void shareBad() {
        runs.changesNothing("no such WINDOW", CUTS, """
                share(-1, 0, 50) = BAD; share(7, 0, 50) = BAD; share(10, 1, 50) = BAD
                share(2147483647, 0, 50) = BAD
                """);
        for (int how : new int[] {-1, 2, 3, Runs.FAR[0], Runs.FAR[3]}) {
            runs.changesNothing("how", CUTS, """
                    share(0, %1$d, 50) = BAD; share(3, %1$d, 50) = BAD; share(4, %1$d, 50) = BAD
                    """.formatted(how));
        }
        for (int v : new int[] {9, 91, 0, -50, 100, Runs.FAR[0], Runs.FAR[3]}) {
            runs.changesNothing("v", CUTS, """
                    share(3, 0, %1$d) = BAD; share(3, 1, %1$d) = BAD; share(0, 1, %1$d) = BAD
                    share(4, 0, %1$d) = BAD
                    """.formatted(v));
        }
        for (int v : new int[] {10, 11, 89, 90}) {
            runs.run("10 .. 90", CUTS + """
                    share(3, 0, %1$d) = 40; share(3, 0, 50) = %1$d; share(3, 1, %1$d) = 30; share(3, 1, 50) = %1$d
                    """.formatted(v));
        }
    }

    private static void shareNotTiled() {
        runs.changesNothing("NO: it is not TILED", CUTS, """
                share(4, 0, 50) = NO; share(4, 1, 50) = NO; share(5, 0, 50) = NO; share(6, 1, 50) = NO
                """);
        runs.changesNothing("BAD ahead of NO", CUTS, """
                share(4, 2, 50) = BAD; share(5, 0, 9) = BAD; share(6, -1, 91) = BAD
                """);
    }

    private static void shareNoSuchCut() {
        runs.changesNothing("NO: there is no such CUT", CUTS, """
                share(0, 1, 50) = NO; share(0, 1, 9) = BAD; share(0, 1, 91) = BAD
                """);
        runs.changesNothing("no CUT at all", "screen(0, 100, 100); open(1, 5, 5, -1) = 0", """
                share(0, 0, 50) = NO; share(0, 1, 50) = NO; share(0, 2, 50) = BAD; share(0, 0, 9) = BAD
                """);
        runs.changesNothing("no CUT, but TABS", "screen(0, 60, 60); open(1, 40, 40, -1); open(1, 40, 40, -1)", """
                share(0, 0, 50) = NO; share(1, 1, 50) = NO
                """);
        runs.changesNothing("only ACROSS", "screen(0, 100, 100); open(1, 5, 5, -1); open(1, 5, 5, -1)", """
                share(0, 1, 50) = NO; share(1, 1, 50) = NO
                """);
        runs.changesNothing("only DOWN", "screen(0, 99, 100); open(1, 5, 5, -1); open(1, 5, 5, -1)", """
                share(0, 0, 50) = NO; share(1, 0, 50) = NO
                """);
        runs.changesNothing("a CUT on another SCREEN", APART, "share(1, 0, 50) = NO; share(0, 0, 50) = NO");
    }

    private static void shareOfTheNearestCut() {
        runs.run("the nearest CUT above the LEAF that is ACROSS", CUTS + """
                share(3, 0, 60) = 40; box(0) = 0 0 0 40 200; box(2) = 0 40 60 96 140; box(3) = 0 136 60 64 140
                share(2, 0, 60) = 60; share(0, 0, 50) = 20
                """);
        runs.run("not nearer, if that is DOWN", CUTS + """
                share(1, 0, 70) = 20; area(0, 3) = 140; share(0, 0, 20) = 70; share(3, 0, 50) = 40
                """);
        runs.run("that is DOWN, over one ACROSS", CUTS + """
                share(3, 1, 80) = 30; area(1, 4) = 160; share(2, 1, 20) = 80; share(1, 1, 30) = 20
                """);
        runs.run("what it was, though the same", CUTS + "share(3, 0, 40) = 40; share(3, 0, 40) = 40; area(2, 3) = 64");
        runs.run("of a hidden TAB", CUTS + """
                drag(1, 3, 4); focus(3); about(1, 4) = 0; share(1, 0, 70) = 40; share(3, 0, 50) = 70
                """);
        runs.run("FOCUS, THE STACK and what is SHOWN stay", CUTS + """
                drag(1, 3, 4); focus(3); focusRow() = 3 1 6 5 4 2 0; share(1, 0, 70) = 40
                focusRow() = 3 1 6 5 4 2 0; stack() = 4 5 6; about(1, 4) = 0
                """);
    }
}

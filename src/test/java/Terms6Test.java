/** 'Terms', section 6: screens that go and come back, what is KEPT; with promises 2 and 3. A method a sentence. */
public final class Terms6Test {
    private static final Runs runs = new Runs();

    /** Screen 0 has 0 | [1, 2] with share 70, 1 SHOWN, 3 FLOATING, 4 a DIALOG of 0; screen 1 is empty; 5 is STICKY. */
    private static final String BASE = """
            screen(0, 200, 100); screen(1, 300, 200); open(1, 20, 20, -1) = 0; open(1, 30, 30, -1) = 1
            open(1, 10, 40, -1) = 2
            open(2, 40, 25, -1) = 3; open(3, 12, 14, 0) = 4; open(4, 10, 10, -1) = 5
            drag(2, 1, 4) = 0; share(0, 0, 70) = 50; focus(1); move(3, 155, 70); move(4, 180, 80)
            """;
    private static final String GONE = BASE + "gone(0) = 5; count(5) = 1\n";

    /** 0 on screen 0, 1 on screen 1, nothing KEPT. */
    private static final String APART = """
            screen(0, 200, 100); screen(1, 200, 100); open(1, 5, 5, -1) = 0; gone(0) = 1
            open(1, 5, 5, -1) = 1; screen(0, 200, 100) = 1; count(5) = 0
            """;

    public static void main(String[] args) {
        nothingIsKeptIfItHadNoSuchWindows();
        somethingIsKeptIfItHadOne();
        goneAnswersHowManyWereOnIt();
        tiledOnesBecomeTabsBehindTheOthers();
        tiledOnesBecomeTabsOfANewLeaf();
        theLeastOtherScreenTakesThem();
        goneNeedsATreeThatFits();
        goneNeedsWholeFloatingOnes();
        goneRefused();
        floatingOnesArePutThere();
        keptNoMoreWhenOneIsClosed();
        keptNoMoreWhenOneIsDragged();
        keptNoMoreWhenOneIsMoved();
        keptNoMoreWhenOneIsBroughtBackElsewhere();
        keptStaysAfterAllElse();
        keptStaysAfterRefusedCalls();
        keptStaysWithAnotherScreen();
        comesBackIfTheTreeFits();
        comesBackIfFloatingOnesCanBeWhole();
        comesBackIfDialogsCanBeWhole();
        comesBackAsItWasKept();
        tabsLeaveAsIfClosed();
        floatingOnesArePutWhereTheyWere();
        dialogsComeAlong();
        nothingIsKeptThen();
        comesBackToTheRowAndTheStack();
        aScreenThatIsThereChangesItsSize();
        runs.end();
    }

    private static void nothingIsKeptIfItHadNoSuchWindows() {
        runs.run("nothing, if it had no such WINDOWS", """
                screen(0, 100, 100); screen(1, 100, 100); gone(0) = 0; count(5) = 0; screen(0, 100, 100) = 0
                """);
        runs.run("(not STICKY)", """
                screen(0, 100, 100); screen(1, 100, 100); open(4, 5, 5, -1); gone(0) = 0; count(5) = 0
                screen(0, 100, 100) = 0; gone(1) = 0; count(5) = 0
                """);
        runs.run("nor ones on another SCREEN", """
                screen(0, 100, 100); screen(1, 100, 100); screen(2, 100, 100); open(1, 5, 5, -1); open(2, 5, 5, -1)
                gone(1) = 0; gone(2) = 0; count(5) = 0; area(0, 0) = 0
                """);
        runs.run("nor ones that are closed", """
                screen(0, 100, 100); screen(1, 100, 100); open(1, 5, 5, -1); open(2, 5, 5, -1); close(0); close(1)
                gone(0) = 0; count(5) = 0
                """);
    }

    private static void somethingIsKeptIfItHadOne() {
        for (int kind = 1; kind <= 2; kind++) {
            runs.run("one WINDOW of kind " + kind, """
                    screen(0, 100, 100); screen(1, 100, 100); open(%d, 5, 5, -1) = 0; count(5) = 0
                    gone(0) = 1; count(5) = 1; area(0, 0) = 1; screen(0, 100, 100) = 1; area(0, 0) = 0; count(5) = 0
                    """.formatted(kind));
        }
        runs.run("with two SCREENS, and with three never", APART + """
                screen(2, 300, 300); gone(0) = 1; count(5) = 1; gone(1) = 2; count(5) = 2; gone(2) = NO; count(5) = 2
                """);
    }

    private static void goneAnswersHowManyWereOnIt() {
        runs.run("how many WINDOWS were on it: TILED, FLOATING, DIALOGS, not STICKY", BASE + """
                gone(0) = 5; told(1, 6) = 2; count(0) = 1
                """);
        runs.run("none", "screen(0, 100, 100); screen(1, 100, 100); gone(1) = 0");
        runs.run("not those of the other", APART + "gone(1) = 1; gone(0) = NO");
        StringBuilder ten = new StringBuilder("screen(0, 100, 100); screen(1, 100, 100)\n");
        for (int i = 0; i <= 9; i++) {
            ten.append("open(%d, 5, 5, -1) = %d\n".formatted(1 + i % 2, i));
        }
        runs.run("ten", ten + "gone(0) = 10; screen(0, 100, 100) = 10; gone(1) = 0; count(5) = 0");
    }

    private static void tiledOnesBecomeTabsBehindTheOthers() {
        String both = APART + """
                open(1, 5, 5, -1) = 2; open(1, 5, 5, -1) = 3; drag(3, 1, 4) = 0; focus(1); leaf(1, 0) = 1 1 3
                leaf(1, 1) = 2 2
                focus(0); open(1, 5, 5, -1) = 4; open(1, 5, 5, -1) = 5; drag(5, 0, 0) = 0; open(1, 5, 5, -1) = 6
                drag(6, 4, 4) = 0
                leaf(0, 0) = 5 5; leaf(0, 1) = 0 0; leaf(0, 2) = 6 4 6
                """;
        runs.run("in order of LEAVES and TABS, behind the others, of the first LEAF; the SHOWN one stays", both + """
                gone(0) = 4; leaf(1, 0) = 1 1 3 5 0 4 6; leaf(1, 1) = 2 2; told(1, 2) = 2
                about(1, 4) = 1; about(5, 4) = 0; about(6, 4) = 0; count(4) = 6
                """);
        runs.run("the other way", both + """
                gone(1) = 3; leaf(0, 0) = 5 5 1 3 2; leaf(0, 1) = 0 0; leaf(0, 2) = 6 4 6; told(0, 2) = 3
                """);
        runs.run("a SHOWN one that is not the first", both + "focus(3); gone(0) = 4; leaf(1, 0) = 3 1 3 5 0 4 6");
    }

    private static void tiledOnesBecomeTabsOfANewLeaf() {
        runs.run("a new LEAF, if that TREE is empty: of it the first is SHOWN", GONE + """
                told(1, 2) = 1; told(1, 3) = 0; leaf(1, 0) = 0 0 1 2; box(2) = 1 0 0 300 200; about(1, 4) = 0
                count(4) = 1
                """);
        runs.run("no LEAF, if there is nothing TILED", """
                screen(0, 100, 100); screen(1, 100, 100); open(2, 5, 5, -1); gone(0) = 1; told(1, 2) = 0
                told(1, 6) = 1
                """);
    }

    private static void theLeastOtherScreenTakesThem() {
        int[][] ways = {{0, 1, 2, 1}, {1, 0, 2, 0}, {2, 0, 1, 0}, {0, 2, 1, 1}, {1, 2, 0, 0}, {2, 1, 0, 0}};
        for (int[] way : ways) {
            runs.run("the least other SCREEN", """
                    screen(%1$d, 100, 100); open(1, 5, 5, -1); open(2, 5, 5, -1); screen(%2$d, 100, 100)
                    screen(%3$d, 100, 100)
                    gone(%1$d) = 2; area(0, 0) = %4$d; area(1, 0) = %4$d
                    """.formatted(way[0], way[1], way[2], way[3]));
            runs.run("the only other SCREEN", """
                    screen(%1$d, 100, 100); open(1, 5, 5, -1); open(2, 5, 5, -1); screen(%2$d, 100, 100)
                    gone(%1$d) = 2; area(0, 0) = %2$d; area(1, 0) = %2$d
                    """.formatted(way[0], way[1]));
        }
        runs.changesNothing("not a greater one that has room", """
                screen(0, 100, 100); open(1, 80, 80, -1); screen(1, 79, 100); screen(2, 100, 100)
                """, "gone(0) = NO");
    }

    private static void goneNeedsATreeThatFits() {
        String tabs = """
                screen(0, 200, 100); open(1, 60, 20, -1); open(1, 50, 30, -1); open(1, 10, 70, -1); told(0, 4) = 120
                screen(1, 400, 400)
                """;
        runs.run("all TABS of one LEAF, just", tabs + """
                screen(1, 60, 70); gone(0) = 3; told(1, 4) = 60; told(1, 5) = 70
                """);
        runs.run("a point more", tabs + "screen(1, 61, 71); gone(0) = 3");
        runs.changesNothing("a point too narrow", tabs + "screen(1, 59, 70)", "gone(0) = NO");
        runs.changesNothing("a point too low", tabs + "screen(1, 60, 69)", "gone(0) = NO");
        String across = """
                screen(0, 200, 100); screen(1, 200, 200); open(1, 60, 60, -1) = 0; gone(0) = 1
                open(1, 50, 30, -1) = 1; open(1, 40, 10, -1) = 2; screen(0, 200, 100) = 1; drag(2, 1, 1)
                told(1, 4) = 90; told(1, 5) = 30
                """;
        runs.run("beside another LEAF, just", across + """
                screen(1, 100, 60); gone(0) = 1; leaf(1, 0) = 1 1 0; told(1, 4) = 100; told(1, 5) = 60
                """);
        runs.changesNothing("beside another LEAF, a point too narrow", across + "screen(1, 99, 60)", "gone(0) = NO");
        runs.changesNothing("beside another LEAF, a point too low", across + "screen(1, 100, 59)", "gone(0) = NO");
        String down = across + "drag(2, 1, 3); told(1, 4) = 50; told(1, 5) = 40\n";
        runs.run("above another LEAF, just", down + "screen(1, 60, 70); gone(0) = 1; told(1, 4) = 60; told(1, 5) = 70");
        runs.changesNothing("above another LEAF, a point too narrow", down + "screen(1, 59, 70)", "gone(0) = NO");
        runs.changesNothing("above another LEAF, a point too low", down + "screen(1, 60, 69)", "gone(0) = NO");
    }

    private static void goneNeedsWholeFloatingOnes() {
        for (int kind = 2; kind <= 3; kind++) {
            String one = """
                    screen(0, 200, 200); open(2, 1, 1, -1) = 0; open(%d, 60, 70, %d) = 1; screen(1, 400, 400)
                    """.formatted(kind, kind == 3 ? 0 : -1);
            runs.run("just whole there", one + "screen(1, 60, 70); gone(0) = 2; box(1) = 1 0 0 60 70");
            runs.run("a point more", one + "screen(1, 61, 71); gone(0) = 2");
            runs.changesNothing("a point too narrow there", one + "screen(1, 59, 70)", "gone(0) = NO");
            runs.changesNothing("a point too low there", one + "screen(1, 60, 69)", "gone(0) = NO");
        }
        runs.run("a STICKY one need not be whole", """
                screen(0, 200, 200); open(4, 60, 70, -1) = 0; open(2, 5, 5, -1) = 1; screen(1, 40, 40); gone(0) = 1
                box(0) = NONE 0 0 60 70
                """);
    }

    private static void goneRefused() {
        runs.changesNothing("BAD", GONE, """
                gone(-1) = BAD; gone(3) = BAD; gone(2147483647) = BAD; gone(-2147483648) = BAD
                """);
        runs.changesNothing("NO: it is MISSING", GONE, "gone(0) = NO; gone(2) = NO");
        runs.changesNothing("NO: there is no other one", GONE, "gone(1) = NO");
        runs.changesNothing("NO: there is no other one", "screen(2, 100, 100)", """
                gone(2) = NO; gone(0) = NO; gone(1) = NO
                """);
        runs.changesNothing("NO: the TREE there would not FIT, with something KEPT", GONE + """
                screen(2, 40, 400); open(1, 41, 5, -1)
                """, "gone(1) = NO");
        runs.changesNothing("NO: a FLOATING one can't be whole there, with something KEPT", GONE + """
                screen(2, 40, 400); open(2, 41, 5, -1)
                """, "gone(1) = NO");
        runs.run("then it can", GONE + """
                screen(2, 40, 400); open(2, 41, 5, -1) = 6; gone(1) = NO; screen(2, 41, 400); gone(1) = 6
                count(5) = 2
                """);
    }

    private static void floatingOnesArePutThere() {
        runs.run("PUT there at their places", GONE + "box(3) = 1 155 70 40 25; box(4) = 1 180 80 12 14");
        runs.run("PUT there, nearer", BASE + """
                screen(1, 100, 90); gone(0) = 5; box(3) = 1 60 65 40 25; box(4) = 1 88 76 12 14
                box(5) = NONE 50 50 10 10
                """);
    }

    private static void keptNoMoreWhenOneIsClosed() {
        for (int window = 0; window <= 4; window++) {
            runs.run("closed", GONE + """
                    close(%d); count(5) = 0; screen(0, 200, 100) = 0; told(0, 2) = 0; told(0, 6) = 0
                    """.formatted(window));
        }
        runs.run("not a STICKY one", GONE + "close(5); count(5) = 1; screen(0, 200, 100) = 5");
        runs.run("closed with its OWNER, that is of it, too", GONE + "close(0) = 2; count(5) = 0");
        runs.run("the number's next WINDOW does not bring it again", GONE + """
                close(3); open(2, 40, 25, -1) = 3; count(5) = 0; screen(0, 200, 100) = 0; area(3, 0) = 1
                """);
    }

    private static void keptNoMoreWhenOneIsDragged() {
        int[][] drags = {{0, 1}, {1, 0}, {2, 1}};
        for (int[] drag : drags) {
            for (int side = 0; side <= 4; side++) {
                runs.run("dragged", GONE + """
                        drag(%d, %d, %d) = 0; count(5) = 0; screen(0, 200, 100) = 0
                        """.formatted(drag[0], drag[1], side));
            }
        }
        runs.run("dragged to another SCREEN", APART + """
                screen(2, 100, 100); gone(0) = 1; gone(1) = 2; count(5) = 2; open(1, 5, 5, -1) = 2
                drag(0, 2, 0) = 0; count(5) = 0
                """);
        runs.run("one of the second alone", APART + """
                screen(2, 100, 100); gone(0) = 1; gone(1) = 2; drag(1, 0, 0) = 0; count(5) = 1
                screen(0, 200, 100) = 1; area(1, 0) = 2
                """);
    }

    private static void keptNoMoreWhenOneIsMoved() {
        for (int window = 3; window <= 4; window++) {
            runs.run("moved", GONE + "move(%d, 5, 5) = 0; count(5) = 0; screen(0, 200, 100) = 0".formatted(window));
        }
        runs.run("moved, though to where it is", GONE + "box(3) = 1 155 70 40 25; move(3, 155, 70) = 0; count(5) = 0");
        runs.run("moved, though it can't go farther", GONE + """
                move(3, 1000, 1000) = 0; move(3, 1000, 1000) = 0; count(5) = 0
                """);
        runs.run("not a STICKY one", GONE + "move(5, 5, 5) = 0; count(5) = 1; screen(0, 200, 100) = 5");
    }

    private static void keptNoMoreWhenOneIsBroughtBackElsewhere() {
        String two = APART + "screen(2, 300, 300); gone(0) = 1; leaf(1, 0) = 1 1 0; gone(1) = 2; count(5) = 2\n";
        runs.run("the second first: both of it come back, nothing to the first", two + """
                screen(1, 200, 100) = 2; count(5) = 0; area(0, 0) = 1; area(1, 0) = 1; leaf(1, 0) = 1 1 0
                screen(0, 200, 100) = 0; area(0, 0) = 1
                """);
        runs.run("the first first: nothing to the second", two + """
                screen(0, 200, 100) = 1; count(5) = 0; area(0, 0) = 0; area(1, 0) = 2; screen(1, 200, 100) = 0
                area(1, 0) = 2
                """);
        runs.run("what did not come back ends nothing", two + """
                open(3, 60, 60, 1) = 2; screen(1, 40, 40) = 0; count(5) = 1; screen(0, 200, 100) = 1; count(5) = 0
                """);
        runs.run("what was KEPT later had more", two + """
                open(3, 60, 60, 0) = 2; screen(0, 40, 40) = 0; count(5) = 1; screen(1, 200, 100) = 2; area(2, 0) = 1
                """);
        runs.run("to another SCREEN, with FLOATING ones", """
                screen(0, 100, 100); screen(1, 100, 100); screen(2, 100, 100); open(2, 5, 5, -1) = 0; gone(0) = 1
                open(2, 5, 5, -1) = 1; gone(1) = 2
                count(5) = 2; screen(0, 100, 100) = 1; count(5) = 0; area(0, 0) = 0; area(1, 0) = 2
                """);
    }

    private static void keptStaysAfterAllElse() {
        String[] calls = {
            "focus(2)", "focus(3); back()", "screen(1, 60, 60)", "screen(1, 400, 400)", "screen(2, 100, 100)",
            "screen(2, 100, 100); gone(2)", "close(5)", "move(5, 0, 0)", "open(1, 5, 5, -1)", "open(2, 5, 5, -1)",
            "open(3, 5, 5, 3) = 6; move(6, 1, 1); close(6)",
            "open(1, 5, 5, -1) = 6; drag(6, 0, 0); drag(6, 1, 4); close(6)",
            "open(1, 5, 5, -1) = 6; share(0, 0, 20); share(6, 0, 30)",
            "open(1, 5, 5, -1) = 6; toward(0) = 0; toward(1) = 6"};
        for (String call : calls) {
            runs.run("not closed, dragged, moved or brought back", GONE + call + "\n" + """
                    count(5) = 1; screen(0, 200, 100) = 5; leaf(0, 0) = 0 0; leaf(0, 1) = 1 1 2; area(0, 3) = 140
                    box(3) = 0 155 70 40 25; box(4) = 0 180 80 12 14
                    """);
        }
        runs.run("nor when they go on", GONE + """
                screen(2, 100, 100); gone(1) = 5; count(5) = 2; box(3) = 2 60 70 40 25
                screen(0, 200, 100) = 5; count(5) = 0; box(3) = 0 155 70 40 25; leaf(0, 1) = 1 1 2
                """);
    }

    private static void keptStaysAfterRefusedCalls() {
        runs.changesNothing("a call that is refused", GONE, """
                close(6) = BAD; drag(0, 0, 1) = BAD; drag(0, 1, 5) = BAD; drag(0, 1, -1) = BAD; drag(0, 3, 0) = NO
                drag(3, 0, 0) = NO; drag(0, 6, 0) = BAD
                move(3, 1001, 0) = BAD; move(3, 0, -1001) = BAD; move(0, 5, 5) = NO; screen(0, 39, 100) = BAD
                screen(0, 100, 401) = BAD; screen(1, 39, 100) = BAD
                """);
        runs.changesNothing("the TREE would not FIT", GONE + "screen(1, 40, 40)", """
                drag(1, 0, 0) = NO; drag(1, 0, 1) = NO; drag(1, 0, 2) = NO; drag(1, 0, 3) = NO
                screen(1, 40, 39) = BAD
                """);
        runs.changesNothing("the SCREEN would be too small", GONE + "open(2, 50, 50, -1)", """
                screen(1, 49, 100) = NO; screen(1, 100, 49) = NO
                """);
    }

    /** KEPT with 1: window 0; KEPT with 2: window 1; both are on screen 0. */
    private static void keptStaysWithAnotherScreen() {
        String two = """
                screen(1, 100, 100); screen(2, 100, 100); open(1, 5, 5, -1) = 0; gone(1) = 1; open(1, 5, 5, -1) = 1
                screen(1, 100, 100) = 1
                screen(0, 100, 100); gone(1) = 1; gone(2) = 1; count(5) = 2; leaf(0, 0) = 0 0 1
                """;
        runs.run("one of the WINDOWS of it: not of another's", two + "close(1); count(5) = 1; screen(1, 100, 100) = 1");
        runs.run("one of the WINDOWS of it: not of another's", two + """
                drag(0, 1, 4); count(5) = 1; screen(1, 100, 100) = 0; screen(2, 100, 100) = 1
                """);
        runs.run("both come back, one by one", two + """
                screen(1, 100, 100) = 1; count(5) = 1; area(1, 0) = 0; screen(2, 100, 100) = 1; count(5) = 0
                area(0, 0) = 1; area(1, 0) = 2
                """);
        runs.run("one does not come back: the other can", two + """
                open(3, 50, 50, 0); screen(1, 40, 40) = 0; count(5) = 1; screen(2, 100, 100) = 1; count(5) = 0
                """);
    }

    private static void comesBackIfTheTreeFits() {
        String gone = """
                screen(0, 200, 100); screen(1, 300, 200); open(1, 60, 50, -1); open(1, 45, 70, -1); gone(0) = 2
                """;
        runs.run("just", gone + """
                screen(0, 105, 70) = 2; told(1, 2) = 0; box(0) = 0 0 0 60 70; box(1) = 0 60 0 45 70; count(5) = 0
                """);
        runs.run("a point more", gone + "screen(0, 106, 71) = 2; box(1) = 0 60 0 46 71");
        runs.run("a point too narrow", gone + """
                screen(0, 104, 70) = 0; told(0, 2) = 0; leaf(1, 0) = 0 0 1; area(0, 0) = 1; count(5) = 0
                """);
        runs.run("a point too low", gone + """
                screen(0, 105, 69) = 0; told(0, 2) = 0; leaf(1, 0) = 0 0 1; area(1, 0) = 1; count(5) = 0
                """);
        String down = """
                screen(0, 100, 200); screen(1, 300, 200); open(1, 60, 50, -1); open(1, 45, 70, -1); gone(0) = 2
                """;
        runs.run("DOWN, just", down + "screen(0, 60, 120) = 2; box(0) = 0 0 0 60 50; box(1) = 0 0 50 60 70");
        runs.run("DOWN, a point too narrow", down + "screen(0, 59, 120) = 0; leaf(1, 0) = 0 0 1");
        runs.run("DOWN, a point too low", down + "screen(0, 60, 119) = 0; leaf(1, 0) = 0 0 1");
        runs.run("a FLOATING one does not come back alone", """
                screen(0, 200, 100); screen(1, 300, 200); open(1, 60, 50, -1); open(2, 5, 5, -1); gone(0) = 2
                screen(0, 59, 100) = 0; area(1, 0) = 1; told(0, 6) = 0
                """);
    }

    private static void comesBackIfFloatingOnesCanBeWhole() {
        String gone = """
                screen(0, 200, 200); screen(1, 300, 200); open(2, 120, 80, -1); open(1, 5, 5, -1); gone(0) = 2
                """;
        runs.run("just", gone + "screen(0, 120, 80) = 2; box(0) = 0 0 0 120 80; area(1, 0) = 0");
        runs.run("a point more", gone + "screen(0, 121, 81) = 2");
        runs.run("a point too narrow", gone + """
                screen(0, 119, 80) = 0; area(0, 0) = 1; area(1, 0) = 1; count(5) = 0; told(0, 2) = 0
                """);
        runs.run("a point too low", gone + """
                screen(0, 120, 79) = 0; area(0, 0) = 1; area(1, 0) = 1; count(5) = 0; told(0, 2) = 0
                """);
    }

    private static void comesBackIfDialogsCanBeWhole() {
        String gone = "screen(0, 200, 200); screen(1, 300, 200); open(1, 5, 5, -1) = 0; gone(0) = 1\n";
        String own = gone + "open(3, 120, 80, 0) = 1\n";
        runs.run("just", own + "screen(0, 120, 80) = 1; area(0, 0) = 0; box(1) = 0 0 0 120 80");
        runs.run("a point too narrow: nothing comes back", own + """
                screen(0, 119, 80) = 0; area(0, 0) = 1; area(1, 0) = 1; count(5) = 0; told(0, 2) = 0
                """);
        runs.run("a point too low: nothing comes back", own + """
                screen(0, 120, 79) = 0; area(0, 0) = 1; area(1, 0) = 1; count(5) = 0
                """);
        String ofADialog = gone + "open(3, 5, 5, 0) = 1; open(3, 120, 80, 1) = 2\n";
        runs.run("a DIALOG of that DIALOG, just", ofADialog + "screen(0, 120, 80) = 1; area(1, 0) = 0; area(2, 0) = 0");
        runs.run("a DIALOG of that DIALOG, a point too narrow", ofADialog + """
                screen(0, 119, 80) = 0; area(0, 0) = 1; area(1, 0) = 1; area(2, 0) = 1
                """);
        runs.run("a DIALOG of that DIALOG, a point too low", ofADialog + """
                screen(0, 120, 79) = 0; area(0, 0) = 1; area(1, 0) = 1; area(2, 0) = 1
                """);
        runs.run("one of another WINDOW does not matter", gone + """
                open(2, 5, 5, -1) = 1; open(3, 120, 80, 1) = 2; screen(0, 119, 79) = 1; area(0, 0) = 0
                area(2, 0) = 1
                """);
        runs.run("a KEPT DIALOG counts as one that came back", """
                screen(0, 200, 200); screen(1, 300, 200); open(1, 5, 5, -1) = 0; open(3, 120, 80, 0) = 1
                gone(0) = 2; screen(0, 120, 80) = 2
                """);
        runs.run("a KEPT DIALOG that can't be whole", """
                screen(0, 200, 200); screen(1, 300, 200); open(1, 5, 5, -1) = 0; open(3, 120, 80, 0) = 1
                gone(0) = 2; screen(0, 119, 80) = 0; area(0, 0) = 1
                """);
    }

    private static void comesBackAsItWasKept() {
        runs.run("the TREE is as it was KEPT (SHOWN ones, too)", GONE + """
                focus(2); leaf(1, 0) = 2 0 1 2; open(1, 5, 5, -1) = 6; share(0, 0, 20); screen(0, 200, 100) = 5
                leaf(0, 0) = 0 0; leaf(0, 1) = 1 1 2; told(0, 2) = 2; told(0, 3) = 1; box(0) = 0 0 0 140 100
                box(2) = 0 140 0 60 100
                leaf(1, 0) = 6 6; box(6) = 1 0 0 300 200; share(1, 0, 50) = 70
                """);
        runs.run("of another size", GONE + "screen(0, 100, 50) = 5; box(0) = 0 0 0 70 50; box(1) = 0 70 0 30 50");
        runs.run("its shares, hidden by least sizes, too", GONE + """
                screen(0, 50, 40) = 5; box(0) = 0 0 0 20 40; screen(0, 200, 100); box(0) = 0 0 0 140 100
                share(0, 0, 50) = 70
                """);
        runs.run("CUTS in CUTS", """
                screen(0, 200, 100); screen(1, 200, 100); open(1, 1, 1, -1) = 0; open(1, 1, 1, -1) = 1
                open(1, 1, 1, -1) = 2; drag(2, 1, 3)
                open(1, 1, 1, -1) = 3; drag(3, 0, 2); share(3, 1, 30); share(2, 1, 80); share(0, 0, 25)
                gone(0) = 4; leaf(1, 0) = 3 3 0 1 2; screen(0, 200, 100) = 4
                box(3) = 0 0 0 50 30; box(0) = 0 0 30 50 70; box(1) = 0 50 0 150 80; box(2) = 0 50 80 150 20
                """);
        runs.run("again and again", GONE + """
                screen(0, 200, 100) = 5; gone(0) = 5; screen(0, 200, 100) = 5; gone(0) = 5; count(5) = 1
                screen(0, 200, 100) = 5; leaf(0, 1) = 1 1 2; box(0) = 0 0 0 140 100; box(3) = 0 155 70 40 25
                """);
    }

    /** 1 and 2 are on screen 1 in one LEAF, 0 and 3 are KEPT with screen 0 and stand behind them. */
    private static void tabsLeaveAsIfClosed() {
        String tabs = APART + """
                open(1, 5, 5, -1) = 2; drag(2, 1, 4); focus(0); open(1, 5, 5, -1) = 3; gone(0) = 2
                leaf(1, 0) = 2 1 2 0 3
                """;
        runs.run("the SHOWN one stays", tabs + "screen(0, 200, 100) = 2; leaf(1, 0) = 2 1 2");
        runs.run("the SHOWN one stays, though not the last", tabs + """
                focus(1); screen(0, 200, 100) = 2; leaf(1, 0) = 1 1 2
                """);
        runs.run("it was SHOWN: or else the last one", tabs + "focus(0); screen(0, 200, 100) = 2; leaf(1, 0) = 2 1 2");
        runs.run("it was SHOWN: or else the last one", tabs + "focus(3); screen(0, 200, 100) = 2; leaf(1, 0) = 2 1 2");
        String more = tabs + "open(1, 5, 5, -1) = 4; drag(4, 1, 4); leaf(1, 0) = 4 1 2 0 3 4; count(5) = 1\n";
        runs.run("it was SHOWN: the one behind it, at last", more + """
                focus(0); screen(0, 200, 100) = 2; leaf(1, 0) = 4 1 2 4
                """);
        runs.run("it was SHOWN: the one behind it", more + "focus(3); screen(0, 200, 100) = 2; leaf(1, 0) = 4 1 2 4");
        runs.run("one ahead was SHOWN", more + "focus(2); screen(0, 200, 100) = 2; leaf(1, 0) = 2 1 2 4");
        runs.run("a LEAF without TABS goes", GONE + """
                open(1, 5, 5, -1) = 6; told(1, 2) = 2; screen(0, 200, 100) = 5; told(1, 2) = 1; told(1, 3) = 0
                leaf(1, 0) = 6 6; told(1, 4) = 5; told(1, 5) = 5
                """);
        runs.run("the last LEAF, too", GONE + """
                screen(0, 200, 100) = 5; told(1, 2) = 0; told(1, 4) = 0; told(1, 5) = 0; told(1, 6) = 0
                """);
    }

    private static void floatingOnesArePutWhereTheyWere() {
        String gone = """
                screen(0, 200, 100); screen(1, 300, 200); open(2, 30, 20, -1) = 0; move(0, 150, 60); gone(0) = 1
                """;
        runs.run("PUT where they were", gone + """
                screen(1, 60, 60); box(0) = 1 30 40 30 20; screen(0, 200, 100) = 1; box(0) = 0 150 60 30 20
                """);
        runs.run("just whole there", gone + "screen(0, 180, 80) = 1; box(0) = 0 150 60 30 20");
        runs.run("a point less", gone + "screen(0, 179, 79) = 1; box(0) = 0 149 59 30 20");
        runs.run("at the edge", gone + "screen(0, 40, 40) = 1; box(0) = 0 10 20 30 20");
    }

    private static void dialogsComeAlong() {
        String gone = """
                screen(0, 200, 100); screen(1, 300, 200); open(1, 5, 5, -1) = 0; open(2, 5, 5, -1) = 1; gone(0) = 2
                """;
        runs.run("DIALOGS that are not of them come along, PUT at their places", gone + """
                open(3, 30, 20, 0) = 2; move(2, 100, 50); open(3, 30, 20, 1) = 3; move(3, 171, 81); count(5) = 1
                screen(0, 200, 100) = 2; box(2) = 0 100 50 30 20; box(3) = 0 170 80 30 20; told(1, 6) = 0
                told(0, 6) = 3
                """);
        runs.run("just at their places", gone + """
                open(3, 30, 20, 1) = 2; move(2, 170, 80); screen(0, 200, 100) = 2; box(2) = 0 170 80 30 20
                """);
        runs.run("DIALOGS of these, too", gone + """
                open(3, 30, 20, 0) = 2; open(3, 10, 10, 2) = 3; move(3, 290, 190); screen(0, 200, 100) = 2
                box(3) = 0 190 90 10 10; area(2, 0) = 0
                """);
        runs.run("not DIALOGS of others", gone + """
                open(1, 5, 5, -1) = 2; open(3, 5, 5, 2) = 3; screen(0, 200, 100) = 2; area(3, 0) = 1; area(2, 0) = 1
                """);
        runs.run("how many WINDOWS came back: not those that came along", gone + """
                open(3, 5, 5, 0); open(3, 5, 5, 1); screen(0, 200, 100) = 2; count(1) = 4
                """);
        runs.run("a KEPT DIALOG is PUT where it was", """
                screen(0, 200, 100); screen(1, 60, 60); open(1, 5, 5, -1) = 0; open(3, 5, 5, 0) = 1
                move(1, 190, 90); gone(0) = 2; box(1) = 1 55 55 5 5; screen(0, 200, 100) = 2; box(1) = 0 190 90 5 5
                """);
    }

    private static void nothingIsKeptThen() {
        runs.run("Nothing is KEPT with it then: they came back", GONE + """
                screen(0, 200, 100) = 5; count(5) = 0; drag(0, 1, 4); gone(1) = 0; count(5) = 0
                """);
        runs.run("or not", GONE + """
                screen(0, 49, 100) = 0; count(5) = 0; screen(0, 200, 100) = 0; area(0, 0) = 1; gone(0) = 0
                count(5) = 0; screen(0, 200, 100) = 0; area(0, 0) = 1
                """);
        runs.run("it goes again: what it has now is KEPT", GONE + """
                screen(0, 200, 100) = 5; close(3); share(0, 0, 30); gone(0) = 4; screen(0, 200, 100) = 4
                area(0, 3) = 60
                """);
    }

    private static void comesBackToTheRowAndTheStack() {
        runs.run("THE FOCUS ROW and THE STACK stay", BASE + """
                focusRow() = 1 2 5 4 3 0; stack() = 3 4 5; gone(0) = 5; focusRow() = 1 2 5 4 3 0; stack() = 3 4 5
                focus(3); focus(0); focusRow() = 0 3 1 2 5 4; stack() = 5 3 4
                screen(0, 200, 100) = 5; focusRow() = 0 3 1 2 5 4; stack() = 5 3 4
                """);
    }

    private static void aScreenThatIsThereChangesItsSize() {
        runs.run("if not its size changes: 0", BASE + """
                screen(0, 201, 101) = 0; told(0, 0) = 201; told(0, 1) = 101; screen(0, 201, 101) = 0; count(0) = 2
                area(0, 0) = 0
                """);
        runs.run("even with something KEPT with another", GONE + "screen(1, 301, 201) = 0; count(5) = 1");
        runs.run("even empty", "screen(0, 100, 100) = 0; screen(0, 40, 400) = 0; told(0, 0) = 40; told(0, 1) = 400");
        runs.changesNothing("BAD ahead of NO", "screen(0, 100, 100); open(1, 60, 60, -1); open(2, 70, 70, -1)", """
                screen(0, 39, 100) = BAD; screen(0, 100, 39) = BAD; screen(0, 59, 401) = BAD
                screen(0, 401, 59) = BAD; screen(0, 39, 59) = BAD; screen(0, 59, 39) = BAD
                screen(0, 59, 100) = NO; screen(0, 100, 59) = NO; screen(0, 69, 100) = NO; screen(0, 100, 69) = NO
                screen(3, 59, 59) = BAD
                """);
        runs.run("just large enough for both", """
                screen(0, 100, 100); open(1, 60, 60, -1); open(2, 70, 70, -1); screen(0, 70, 70) = 0; close(1)
                screen(0, 60, 60) = 0
                """);
    }
}

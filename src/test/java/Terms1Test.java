/** 'Terms', section 1: screens and windows, their numbers, sizes, kinds and owners. A method a sentence. */
public final class Terms1Test {
    private static final Runs runs = new Runs();

    /** All kinds, number 5 free among others, and something KEPT with screen 0. */
    private static final String BUSY = """
            screen(0, 200, 100); screen(1, 300, 200)
            open(1, 20, 25, -1) = 0; open(1, 30, 35, -1) = 1; open(2, 50, 40, -1) = 2
            open(3, 12, 14, 1) = 3; open(4, 60, 70, -1) = 4; open(2, 10, 10, -1) = 5; open(1, 15, 15, -1) = 6
            close(5) = 1
            gone(0) = 5; count(5) = 1
            """;

    public static void main(String[] args) {
        screensHaveNumbersZeroToTwo();
        screensAreMissingAtFirst();
        screensAreFortyToFourHundredPoints();
        windowsHaveNumbersZeroToNine();
        aNewOneHasTheLeastNumberThatIsFree();
        leastSizesAreOneToTwoHundred();
        kindsAreZeroToFour();
        someKindsAreOthersToo();
        anOwnerIsAWindowThatIsNotSticky();
        onlyDialogsHaveOwners();
        aDialogIsOpenedOnItsOwnersScreen();
        aDialogStaysOnItsOwnersScreen();
        runs.end();
    }

    private static void screensHaveNumbersZeroToTwo() {
        for (int s = 0; s <= 2; s++) {
            runs.run("SCREENS 0 .. 2", """
                    screen(%1$d, 100, 80) = 0; count(0) = 1; told(%1$d, 0) = 100; told(%1$d, 1) = 80
                    at(%1$d, 0, 0) = NONE; tab(%1$d, 0, 0) = NONE
                    open(2, 10, 10, -1) = 0; area(0, 0) = %1$d; at(%1$d, 0, 0) = 0
                    gone(%1$d) = NO
                    screen(%2$d, 100, 80) = 0; gone(%1$d) = 1; area(0, 0) = %2$d
                    """.formatted(s, (s + 1) % 3));
        }
        for (int s : new int[] {-1, 3}) {
            noSuchScreen(s);
        }
        for (int s : Runs.FAR) {
            noSuchScreen(s);
        }
    }

    private static void noSuchScreen(int s) {
        String calls = """
                screen(%1$d, 100, 100) = BAD; gone(%1$d) = BAD
                at(%1$d, 0, 0) = BAD; told(%1$d, 0) = BAD; tab(%1$d, 0, -1) = BAD
                """.formatted(s);
        runs.changesNothing("SCREENS 0 .. 2", BUSY, calls);
        runs.changesNothing("SCREENS 0 .. 2", "", calls);
        runs.changesNothing("SCREENS 0 .. 2", "screen(0, 100, 100); screen(1, 100, 100); screen(2, 100, 100)", calls);
    }

    private static void screensAreMissingAtFirst() {
        for (int s = 0; s <= 2; s++) {
            runs.changesNothing("SCREENS are each MISSING (at first)", "count(0) = 0", """
                    gone(%1$d) = NO; at(%1$d, 0, 0) = NO; tab(%1$d, 0, 0) = NO; tab(%1$d, 0, -1) = NO
                    tab(%1$d, 0, -2) = NO
                    told(%1$d, 0) = NO; told(%1$d, 1) = NO; told(%1$d, 2) = NO; told(%1$d, 3) = NO
                    told(%1$d, 4) = NO; told(%1$d, 5) = NO; told(%1$d, 6) = NO
                    """.formatted(s));
            runs.run("each: one that comes leaves the others MISSING", """
                    screen(%1$d, 100, 100) = 0; count(0) = 1
                    told(%2$d, 0) = NO; told(%3$d, 0) = NO
                    """.formatted(s, (s + 1) % 3, (s + 2) % 3));
        }
    }

    private static void screensAreFortyToFourHundredPoints() {
        for (int size : new int[] {40, 41, 399, 400}) {
            runs.run("40 .. 400 points each", """
                    screen(1, %1$d, 100) = 0; told(1, 0) = %1$d; told(1, 1) = 100
                    screen(1, 100, %1$d) = 0; told(1, 0) = 100; told(1, 1) = %1$d
                    screen(2, 100, %1$d) = 0; told(2, 0) = 100; told(2, 1) = %1$d
                    screen(0, %1$d, %1$d) = 0; told(0, 0) = %1$d; told(0, 1) = %1$d
                    """.formatted(size));
        }
        for (int size : new int[] {39, 401, 0, -1, -40, -400}) {
            noSuchSize(size);
        }
        for (int size : Runs.FAR) {
            noSuchSize(size);
        }
    }

    /** Screen 0 has something KEPT, that a refused coming leaves; screen 1 is there; screen 2 never was. */
    private static void noSuchSize(int size) {
        runs.changesNothing("40 .. 400 points each", BUSY, """
                screen(0, %1$d, 200) = BAD; screen(0, 200, %1$d) = BAD; screen(0, %1$d, %1$d) = BAD
                screen(1, %1$d, 200) = BAD; screen(1, 200, %1$d) = BAD; screen(1, %1$d, %1$d) = BAD
                screen(2, %1$d, 200) = BAD; screen(2, 200, %1$d) = BAD; screen(2, %1$d, %1$d) = BAD
                """.formatted(size));
    }

    private static void windowsHaveNumbersZeroToNine() {
        StringBuilder ten = new StringBuilder("screen(0, 100, 100)\n");
        for (int i = 0; i <= 9; i++) {
            ten.append("open(2, 10, 10, -1) = %1$d; count(1) = %2$d\n".formatted(i, i + 1));
        }
        runs.run("WINDOWS have numbers 0 .. 9", ten.toString());
        runs.run("0 .. 9: the first and the last", ten + """
                about(0, 0) = 2; about(9, 0) = 2; focus(0) = 9; focus(9) = 0; steps(0, 9) = NO
                move(9, 1, 1) = 0; move(0, 1, 1) = 0; close(9) = 1; close(0) = 1
                """);
        runs.changesNothing("not an eleventh", ten.toString(), """
                open(1, 10, 10, -1) = FULL; open(2, 10, 10, -1) = FULL; open(4, 10, 10, -1) = FULL
                open(3, 10, 10, 0) = FULL
                """);
        for (int window : new int[] {-1, 5, 7, 9, 10}) {
            noSuchWindow(BUSY, window);
        }
        for (int window : Runs.FAR) {
            noSuchWindow(BUSY, window);
        }
        noSuchWindow("", 0);
        noSuchWindow("screen(0, 100, 100)", 0);
        noSuchWindow(ten.toString(), -1);
        noSuchWindow(ten.toString(), 10);
    }

    private static void noSuchWindow(String before, int window) {
        runs.changesNothing("no such WINDOW " + window, before, """
                close(%1$d) = BAD; focus(%1$d) = BAD; move(%1$d, 5, 5) = BAD; share(%1$d, 0, 50) = BAD
                steps(%1$d, 0) = BAD; steps(0, %1$d) = BAD; steps(%1$d, %1$d) = BAD
                drag(%1$d, 0, 0) = BAD; drag(0, %1$d, 0) = BAD; drag(%1$d, %1$d, 4) = BAD
                area(%1$d, 0) = BAD; about(%1$d, 0) = BAD; isOf(%1$d, 0) = BAD; neighbour(%1$d, 0) = BAD
                open(3, 10, 10, %1$d) = BAD
                """.formatted(window));
    }

    private static void aNewOneHasTheLeastNumberThatIsFree() {
        String four = """
                screen(0, 100, 100)
                open(2, 10, 10, -1) = 0; open(2, 10, 10, -1) = 1; open(2, 10, 10, -1) = 2; open(2, 10, 10, -1) = 3
                """;
        runs.run("the least: the first", four + "close(0); open(1, 1, 1, -1) = 0; open(1, 1, 1, -1) = 4");
        runs.run("the least: the last", four + "close(3); open(1, 1, 1, -1) = 3; open(1, 1, 1, -1) = 4");
        runs.run("the least of two", four + "close(1); close(2); open(4, 1, 1, -1) = 1; open(4, 1, 1, -1) = 2");
        runs.run("whichever was closed first", four + """
                close(2); close(1); open(4, 1, 1, -1) = 1; open(4, 1, 1, -1) = 2
                """);
        runs.run("all are free again", four + """
                close(0); close(1); close(2); close(3); count(1) = 0; count(4) = NONE
                open(2, 1, 1, -1) = 0; open(3, 1, 1, 0) = 1
                """);
        runs.run("a refused one takes no number", four + """
                open(2, 101, 10, -1) = NO; open(1, 10, 101, -1) = NO; open(2, 0, 10, -1) = BAD; open(2, 10, 10, -1) = 4
                """);
        runs.run("those of closed DIALOGS are free, too", four + """
                close(1); open(3, 1, 1, 3) = 1; close(3) = 2; open(2, 1, 1, -1) = 1; open(2, 1, 1, -1) = 3
                """);
    }

    private static void leastSizesAreOneToTwoHundred() {
        for (int kind = 1; kind <= 4; kind++) {
            String before = "screen(0, 400, 400); open(2, 10, 10, -1)\n";
            int owner = kind == 3 ? 0 : -1;
            for (int size : new int[] {1, 2, 199, 200}) {
                runs.run("a least width and height (1 .. 200 each)", before + """
                        open(%1$d, %3$d, 7, %2$d) = 1; about(1, 1) = %3$d; about(1, 2) = 7
                        open(%1$d, 7, %3$d, %2$d) = 2; about(2, 1) = 7; about(2, 2) = %3$d
                        """.formatted(kind, owner, size));
            }
            for (int size : new int[] {0, 201, -1, -200, Runs.FAR[0], Runs.FAR[1], Runs.FAR[2], Runs.FAR[3]}) {
                runs.changesNothing("a least width and height (1 .. 200 each)", before, """
                        open(%1$d, %3$d, 7, %2$d) = BAD; open(%1$d, 7, %3$d, %2$d) = BAD
                        open(%1$d, %3$d, %3$d, %2$d) = BAD
                        """.formatted(kind, owner, size));
            }
        }
    }

    private static void kindsAreZeroToFour() {
        String before = "screen(0, 100, 100); open(2, 10, 10, -1)\n";
        for (int kind = 1; kind <= 4; kind++) {
            runs.run("KINDS", before + """
                    open(%1$d, 9, 9, %2$d) = 1; about(1, 0) = %1$d
                    """.formatted(kind, kind == 3 ? 0 : -1));
        }
        for (int kind : new int[] {0, 5, -1, Runs.FAR[0], Runs.FAR[3]}) {
            runs.changesNothing("KINDS", before, """
                    open(%1$d, 9, 9, -1) = BAD; open(%1$d, 9, 9, 0) = BAD
                    """.formatted(kind));
        }
        for (int kind : new int[] {-1, 5, Runs.FAR[0], Runs.FAR[3]}) {
            runs.changesNothing("KINDS", before, "isOf(0, %d) = BAD".formatted(kind));
        }
    }

    private static void someKindsAreOthersToo() {
        runs.changesNothing("all are WINDOWS; DIALOGS and STICKY ones FLOATING, too", """
                screen(0, 100, 100)
                open(1, 9, 9, -1) = 0; open(2, 9, 9, -1) = 1; open(3, 9, 9, 0) = 2; open(4, 9, 9, -1) = 3
                """, """
                isOf(0, 0) = 1; isOf(0, 1) = 1; isOf(0, 2) = 0; isOf(0, 3) = 0; isOf(0, 4) = 0
                isOf(1, 0) = 1; isOf(1, 1) = 0; isOf(1, 2) = 1; isOf(1, 3) = 0; isOf(1, 4) = 0
                isOf(2, 0) = 1; isOf(2, 1) = 0; isOf(2, 2) = 1; isOf(2, 3) = 1; isOf(2, 4) = 0
                isOf(3, 0) = 1; isOf(3, 1) = 0; isOf(3, 2) = 1; isOf(3, 3) = 0; isOf(3, 4) = 1
                count(1) = 4; count(2) = 1; count(3) = 3
                """);
    }

    private static void anOwnerIsAWindowThatIsNotSticky() {
        String before = """
                screen(0, 100, 100)
                open(1, 9, 9, -1) = 0; open(2, 9, 9, -1) = 1; open(3, 9, 9, 0) = 2; open(4, 9, 9, -1) = 3
                """;
        for (int owner = 0; owner <= 2; owner++) {
            runs.run("an OWNER, a WINDOW", before + "open(3, 5, 5, %1$d) = 4; about(4, 3) = %1$d".formatted(owner));
        }
        runs.changesNothing("that is not STICKY", before, "open(3, 5, 5, 3) = NO");
        runs.changesNothing("a WINDOW", before, """
                open(3, 5, 5, 4) = BAD; open(3, 5, 5, -1) = BAD; open(3, 5, 5, -2) = BAD
                """);
        runs.changesNothing("not one that is closed", before + "close(1)", "open(3, 5, 5, 1) = BAD");
        runs.run("nor STICKY any more, once the number is another's", before + """
                close(3); open(2, 5, 5, -1) = 3; open(3, 5, 5, 3) = 4; about(4, 3) = 3
                """);
        runs.changesNothing("but STICKY, once the number is such a one's", before + "close(1); open(4, 9, 9, -1) = 1",
                "open(3, 5, 5, 1) = NO");
    }

    private static void onlyDialogsHaveOwners() {
        String before = "screen(0, 100, 100); open(1, 9, 9, -1) = 0; open(2, 9, 9, -1) = 1\n";
        for (int kind : new int[] {1, 2, 4}) {
            for (int owner : new int[] {-2, 0, 1, 2, 9, 10, Runs.FAR[0], Runs.FAR[3]}) {
                runs.changesNothing("owner (of a DIALOG a WINDOW; else -1)", before,
                        "open(%d, 9, 9, %d) = BAD".formatted(kind, owner));
            }
            runs.run("else -1", before + "open(%d, 9, 9, -1) = 2; about(2, 3) = NONE".formatted(kind));
        }
        runs.run("OWNER (NONE)", before + """
                about(0, 3) = NONE; about(1, 3) = NONE; open(3, 9, 9, 0) = 2; about(2, 3) = 0
                """);
        runs.run("a number's next WINDOW has its own OWNER, or none", before + """
                open(3, 9, 9, 1) = 2; close(2); open(2, 9, 9, -1) = 2; about(2, 3) = NONE
                close(2); open(3, 9, 9, 0) = 2; about(2, 3) = 0; close(1) = 1; close(0) = 2
                """);
    }

    /** 0 on screen 0, 1 on screen 1, which is at hand. */
    private static final String APART = """
            screen(0, 100, 100); screen(1, 100, 100); open(1, 9, 9, -1) = 0
            gone(0) = 1; open(1, 9, 9, -1) = 1; screen(0, 100, 100) = 1
            area(0, 0) = 0; area(1, 0) = 1; count(4) = 1
            """;

    private static void aDialogIsOpenedOnItsOwnersScreen() {
        runs.run("not on THE SCREEN AT HAND", APART + "open(3, 10, 10, 0) = 2; box(2) = 0 45 45 10 10");
        runs.run("a DIALOG of a DIALOG, too", APART + """
                open(3, 10, 10, 0) = 2; focus(1) = 2; open(3, 20, 20, 2) = 3; box(3) = 0 40 40 20 20
                """);
        runs.run("and if it is at hand", APART + "open(3, 10, 10, 1) = 2; box(2) = 1 45 45 10 10");
    }

    private static void aDialogStaysOnItsOwnersScreen() {
        String withDialogs = APART + "open(3, 10, 10, 0) = 2; open(3, 10, 10, 2) = 3\n";
        runs.run("dragged to another SCREEN", withDialogs + """
                drag(0, 1, 4) = 0; area(0, 0) = 1; area(2, 0) = 1; area(3, 0) = 1
                """);
        runs.run("another one dragged", withDialogs + """
                drag(1, 0, 4) = 0; area(1, 0) = 0; area(2, 0) = 0; area(3, 0) = 0
                """);
        runs.run("its SCREEN goes", withDialogs + "gone(0) = 3; area(0, 0) = 1; area(2, 0) = 1; area(3, 0) = 1");
        runs.run("and comes back", withDialogs + """
                gone(0) = 3; screen(0, 100, 100) = 3; area(0, 0) = 0; area(2, 0) = 0; area(3, 0) = 0
                """);
        runs.run("comes back, with DIALOGS opened since", APART + """
                gone(0) = 1; open(3, 10, 10, 0) = 2; open(3, 10, 10, 2) = 3; area(3, 0) = 1
                screen(0, 100, 100) = 1; area(0, 0) = 0; area(2, 0) = 0; area(3, 0) = 0
                """);
    }
}

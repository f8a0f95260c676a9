/** 'Terms', section 5: how windows are OPENED and CLOSED; with promises 4 and 5. A method a sentence. */
public final class Terms5Test {
    private static final Runs runs = new Runs();

    public static void main(String[] args) {
        openedAtTheLeafOfTheFirstInTheRow();
        openedAtALeafOfThisScreen();
        openedInAnEmptyTree();
        cutByTheShapeOfTheArea();
        cutByTheShapeOfTheLeafNotOfTheScreen();
        firstWayCutAcross();
        firstWayCutDown();
        secondWayTheOtherWay();
        thirdWayALastTab();
        noWay();
        theWholeTreeMustFit();
        cutWithShareFiftyTheOldLeafFirst();
        floatingOnesArePutByTheirNumber();
        stickyOnesAreAtThatPlace();
        dialogsArePutInTheMiddle();
        dialogsArePutByFloor();
        dialogsArePutWhole();
        openedOnesAreFocused();
        openRefusedInOrder();
        closedWithAllTheirDialogs();
        aShownTabThatGoes();
        aHiddenTabThatGoes();
        aLeafWithoutTabsGoes();
        theCutBecomesItsOtherTree();
        focusAfterClosing();
        closeRefused();
        runs.end();
    }

    private static void openedAtTheLeafOfTheFirstInTheRow() {
        String two = "screen(0, 200, 100); open(1, 5, 5, -1) = 0; open(1, 5, 5, -1) = 1\n";
        runs.run("the first WINDOW in THE FOCUS ROW that is TILED", two + """
                open(1, 5, 5, -1) = 2; box(1) = 0 100 0 50 100; box(2) = 0 150 0 50 100
                """);
        runs.run("not the first LEAF, nor the last", two + """
                focus(0); open(1, 5, 5, -1) = 2; box(0) = 0 0 0 50 100; box(2) = 0 50 0 50 100
                box(1) = 0 100 0 100 100
                """);
        runs.run("that is TILED: FLOATING and STICKY ones are passed over", two + """
                focus(0); open(2, 5, 5, -1) = 2; open(4, 5, 5, -1) = 3; open(3, 5, 5, 1) = 4; open(1, 5, 5, -1) = 5
                box(0) = 0 0 0 50 100; box(5) = 0 50 0 50 100
                """);
        runs.run("even if it is not SHOWN", """
                screen(0, 200, 100); open(1, 5, 5, -1) = 0; open(1, 5, 5, -1) = 1; open(1, 5, 5, -1) = 2
                drag(1, 0, 4) = 0; drag(2, 0, 4) = 0; open(1, 5, 5, -1) = 3; focus(0); focus(1); close(1)
                leaf(0, 0) = 2 0 2; focusRow() = 0 3 2; open(1, 5, 5, -1) = 1; leaf(0, 0) = 2 0 2; leaf(0, 1) = 1 1
                leaf(0, 2) = 3 3
                """);
    }

    /** 0 on screen 0, 1 on screen 1. */
    private static final String APART = """
            screen(0, 200, 100); screen(1, 200, 100); open(1, 5, 5, -1) = 0; gone(0) = 1
            open(1, 5, 5, -1) = 1; screen(0, 200, 100) = 1
            """;

    private static void openedAtALeafOfThisScreen() {
        runs.run("TILED and on this SCREEN", APART + """
                focus(0); open(1, 5, 5, -1) = 2; open(2, 5, 5, -1) = 3; focus(0); focus(1); focus(3)
                focusRow() = 3 1 0 2
                open(1, 5, 5, -1) = 4; box(0) = 0 0 0 50 100; box(4) = 0 50 0 50 100; box(2) = 0 100 0 100 100
                box(1) = 1 0 0 200 100
                """);
    }

    private static void openedInAnEmptyTree() {
        runs.run("(In an empty TREE: the only LEAF.)", """
                screen(0, 100, 80); open(1, 5, 6, -1) = 0; told(0, 2) = 1; told(0, 3) = 0; leaf(0, 0) = 0 0
                box(0) = 0 0 0 100 80
                """);
        runs.run("just as large as the SCREEN", "screen(0, 100, 80); open(1, 100, 80, -1) = 0; box(0) = 0 0 0 100 80");
        runs.changesNothing("larger by a point", "screen(0, 100, 80)", """
                open(1, 101, 80, -1) = NO; open(1, 100, 81, -1) = NO; open(1, 101, 81, -1) = NO
                """);
        runs.run("whatever is TILED on another SCREEN", APART + """
                open(2, 5, 5, -1) = 2; gone(1) = 2; close(2); screen(1, 200, 100) = 0; drag(1, 0, 4); told(1, 2) = 0
                screen(2, 100, 100); gone(0) = 2; told(1, 2) = 1; screen(0, 100, 100) = 2; told(1, 2) = 0
                close(0); open(4, 5, 5, -1) = 0; open(2, 5, 5, -1) = 2; area(2, 0) = 0
                """);
        runs.run("FLOATING at hand, TILED ones elsewhere alone", """
                screen(0, 200, 100); screen(1, 200, 100); open(2, 5, 5, -1) = 0; gone(0) = 1; open(1, 5, 5, -1) = 1
                screen(0, 200, 100) = 1; focus(0); open(1, 150, 60, -1) = 2; box(2) = 0 0 0 200 100
                box(1) = 1 0 0 200 100
                """);
    }

    private static void cutByTheShapeOfTheArea() {
        runs.run("as wide as it is high: ACROSS", """
                screen(0, 100, 100); open(1, 5, 5, -1); open(1, 5, 5, -1); box(0) = 0 0 0 50 100
                box(1) = 0 50 0 50 100
                """);
        runs.run("a point wider: ACROSS", """
                screen(0, 101, 100); open(1, 5, 5, -1); open(1, 5, 5, -1); box(0) = 0 0 0 50 100
                box(1) = 0 50 0 51 100
                """);
        runs.run("a point higher: DOWN", """
                screen(0, 100, 101); open(1, 5, 5, -1); open(1, 5, 5, -1); box(0) = 0 0 0 100 50
                box(1) = 0 0 50 100 51
                """);
        runs.run("a point less wide: DOWN", """
                screen(0, 99, 100); open(1, 5, 5, -1); open(1, 5, 5, -1); box(0) = 0 0 0 99 50
                box(1) = 0 0 50 99 50
                """);
    }

    private static void cutByTheShapeOfTheLeafNotOfTheScreen() {
        String two = "screen(0, 100, %d); open(1, 5, 5, -1); open(1, 5, 5, -1); open(1, 5, 5, -1)\n";
        runs.run("50 x 50: ACROSS", two.formatted(50) + "box(1) = 0 50 0 25 50; box(2) = 0 75 0 25 50");
        runs.run("50 x 49: ACROSS", two.formatted(49) + "box(1) = 0 50 0 25 49; box(2) = 0 75 0 25 49");
        runs.run("50 x 51: DOWN", two.formatted(51) + "box(1) = 0 50 0 50 25; box(2) = 0 50 25 50 26");
        runs.run("its AREA as it is now: shares count", """
                screen(0, 100, 50); open(1, 5, 5, -1); open(1, 5, 5, -1); share(0, 0, 51); open(1, 5, 5, -1)
                box(1) = 0 51 0 49 25; box(2) = 0 51 25 49 25
                """);
        runs.run("and sizes of the SCREEN", """
                screen(0, 100, 50); open(1, 5, 5, -1); open(1, 5, 5, -1); screen(0, 97, 50); open(1, 5, 5, -1)
                box(1) = 0 48 0 49 25; box(2) = 0 48 25 49 25
                """);
    }

    private static void firstWayCutAcross() {
        String one = "screen(0, 100, 80); open(1, 60, 30, -1) = 0\n";
        runs.run("60 + 39", one + "open(1, 39, 80, -1) = 1; box(0) = 0 0 0 60 80; box(1) = 0 60 0 40 80");
        runs.run("60 + 40, just", one + "open(1, 40, 80, -1) = 1; box(0) = 0 0 0 60 80; box(1) = 0 60 0 40 80");
        runs.run("60 + 41, so DOWN", one + "open(1, 41, 30, -1) = 1; box(0) = 0 0 0 100 40; box(1) = 0 0 40 100 40");
    }

    private static void firstWayCutDown() {
        String one = "screen(0, 80, 100); open(1, 30, 60, -1) = 0\n";
        runs.run("60 + 39", one + "open(1, 80, 39, -1) = 1; box(0) = 0 0 0 80 60; box(1) = 0 0 60 80 40");
        runs.run("60 + 40, just", one + "open(1, 80, 40, -1) = 1; box(0) = 0 0 0 80 60; box(1) = 0 0 60 80 40");
        runs.run("60 + 41, so ACROSS", one + "open(1, 30, 41, -1) = 1; box(0) = 0 0 0 40 100; box(1) = 0 40 0 40 100");
    }

    private static void secondWayTheOtherWay() {
        String wide = "screen(0, 100, 80); open(1, 60, 40, -1) = 0\n";
        runs.run("40 + 39 DOWN", wide + """
                open(1, 41, 39, -1) = 1; told(0, 2) = 2; box(0) = 0 0 0 100 40; box(1) = 0 0 40 100 40
                """);
        runs.run("40 + 40 DOWN, just", wide + """
                open(1, 100, 40, -1) = 1; told(0, 2) = 2; box(0) = 0 0 0 100 40; box(1) = 0 0 40 100 40
                """);
        runs.run("40 + 41 DOWN, so a TAB", wide + "open(1, 41, 41, -1) = 1; leaf(0, 0) = 1 0 1; told(0, 2) = 1");
        String high = "screen(0, 80, 100); open(1, 40, 60, -1) = 0\n";
        runs.run("40 + 39 ACROSS", high + """
                open(1, 39, 41, -1) = 1; told(0, 2) = 2; box(0) = 0 0 0 40 100; box(1) = 0 40 0 40 100
                """);
        runs.run("40 + 40 ACROSS, just", high + """
                open(1, 40, 100, -1) = 1; told(0, 2) = 2; box(0) = 0 0 0 40 100; box(1) = 0 40 0 40 100
                """);
        runs.run("40 + 41 ACROSS, so a TAB", high + "open(1, 41, 41, -1) = 1; leaf(0, 0) = 1 0 1; told(0, 2) = 1");
    }

    private static void thirdWayALastTab() {
        String one = "screen(0, 100, 80); open(1, 60, 50, -1) = 0\n";
        runs.run("as large as the SCREEN, just", one + """
                open(1, 100, 80, -1) = 1; leaf(0, 0) = 1 0 1; told(0, 4) = 100; told(0, 5) = 80
                """);
        runs.run("less by a point", one + """
                open(1, 99, 79, -1) = 1; leaf(0, 0) = 1 0 1; told(0, 4) = 99; told(0, 5) = 79
                """);
        runs.run("a last one", one + """
                open(1, 60, 50, -1) = 1; open(1, 60, 50, -1) = 2; focus(0); open(1, 60, 50, -1) = 3
                leaf(0, 0) = 3 0 1 2 3
                """);
    }

    private static void noWay() {
        String one = "screen(0, 100, 80); open(1, 60, 50, -1) = 0\n";
        runs.changesNothing("larger than the SCREEN by a point", one, """
                open(1, 101, 80, -1) = NO; open(1, 100, 81, -1) = NO; open(1, 101, 1, -1) = NO
                open(1, 1, 81, -1) = NO
                """);
        runs.changesNothing("with something KEPT", one + "screen(1, 100, 80); gone(0)", """
                open(1, 101, 80, -1) = NO; open(1, 100, 81, -1) = NO
                """);
        runs.changesNothing("with a DIALOG at hand", one + "open(3, 5, 5, 0) = 1", """
                open(1, 101, 80, -1) = NO; open(1, 100, 81, -1) = NO
                """);
    }

    /** The LEAF at hand is 1, beside 0: its own part alone would take more. */
    private static void theWholeTreeMustFit() {
        String two = "screen(0, 100, 80); open(1, 60, 30, -1) = 0; open(1, 20, 30, -1) = 1; box(1) = 0 60 0 40 80\n";
        runs.run("DOWN, 30 + 50 just", two + "open(1, 20, 50, -1) = 2; box(1) = 0 60 0 40 30; box(2) = 0 60 30 40 50");
        runs.run("ACROSS, 60 + 20 + 20 just", two + """
                open(1, 20, 51, -1) = 2; box(1) = 0 60 0 20 80; box(2) = 0 80 0 20 80
                """);
        runs.run("ACROSS would be 60 + 20 + 21", two + "open(1, 21, 51, -1) = 2; leaf(0, 1) = 2 1 2; told(0, 4) = 81");
        runs.run("a TAB, 60 + 40 just", two + """
                open(1, 40, 80, -1) = 2; leaf(0, 1) = 2 1 2; told(0, 4) = 100; told(0, 5) = 80
                """);
        runs.changesNothing("a TAB would be 60 + 41", two, """
                open(1, 41, 51, -1) = NO; open(1, 41, 80, -1) = NO; open(1, 40, 81, -1) = NO
                """);
        runs.run("at another LEAF it would", two + """
                open(1, 60, 80, -1) = NO; focus(0); open(1, 60, 80, -1) = 2; leaf(0, 0) = 2 0 2
                """);
    }

    private static void cutWithShareFiftyTheOldLeafFirst() {
        runs.run("SHARE 50", """
                screen(0, 100, 80); open(1, 5, 5, -1); open(1, 5, 5, -1); share(0, 0, 70) = 50
                open(1, 5, 5, -1) = 2; share(2, 1, 30) = 50; share(2, 0, 20) = 70
                """);
        runs.run("50 again, whatever an earlier CUT had", """
                screen(0, 100, 80); open(1, 5, 5, -1); open(1, 5, 5, -1); share(0, 0, 70); close(1)
                open(1, 5, 5, -1) = 1; area(0, 3) = 50; share(0, 0, 60) = 50
                """);
        runs.run("the old LEAF, with all its TABS, first, a new one second", """
                screen(0, 100, 80); open(1, 5, 5, -1); open(1, 5, 5, -1); drag(1, 0, 4); leaf(0, 0) = 1 0 1
                open(1, 5, 5, -1) = 2
                leaf(0, 0) = 1 0 1; leaf(0, 1) = 2 2; told(0, 2) = 2
                """);
        runs.run("in a second tree", """
                screen(0, 100, 80); open(1, 5, 5, -1); open(1, 5, 5, -1); open(1, 5, 5, -1); leaf(0, 0) = 0 0
                leaf(0, 1) = 1 1; leaf(0, 2) = 2 2
                """);
        runs.run("in a first tree", """
                screen(0, 100, 80); open(1, 5, 5, -1); open(1, 5, 5, -1); focus(0); open(1, 5, 5, -1)
                leaf(0, 0) = 0 0; leaf(0, 1) = 2 2; leaf(0, 2) = 1 1
                """);
    }

    private static void floatingOnesArePutByTheirNumber() {
        StringBuilder ten = new StringBuilder("screen(0, 400, 400)\n");
        for (int i = 0; i <= 9; i++) {
            ten.append("open(2, 5, 5, -1) = %1$d; box(%1$d) = 0 %2$d %2$d 5 5\n".formatted(i, 10 * i));
        }
        runs.run("PUT at (10 times its number, the same)", ten.toString());
        runs.run("its number, not how many there are", ten + "close(2); open(2, 6, 6, -1) = 2; box(2) = 0 20 20 6 6");
    }

    private static void stickyOnesAreAtThatPlace() {
        StringBuilder ten = new StringBuilder("screen(0, 40, 40)\n");
        for (int i = 0; i <= 9; i++) {
            ten.append("open(4, 50, 60, -1) = %1$d; box(%1$d) = NONE %2$d %2$d 50 60\n".formatted(i, 10 * i));
        }
        runs.run("a STICKY one at that place (it need not be whole)", ten.toString());
    }

    private static void dialogsArePutInTheMiddle() {
        String owners = """
                screen(0, 200, 100); open(1, 5, 5, -1) = 0; open(1, 5, 5, -1) = 1; open(2, 40, 30, -1) = 2
                move(2, 100, 50)
                """;
        runs.run("its OWNER's x + (its OWNER's width less its own) / 2, y likewise", owners + """
                open(3, 20, 10, 2) = 3; box(3) = 0 110 60 20 10
                """);
        runs.run("of a TILED OWNER its LEAF's AREA", owners + "open(3, 20, 10, 1) = 3; box(3) = 0 140 45 20 10");
        runs.run("of a DIALOG", owners + "open(3, 20, 10, 2) = 3; open(3, 10, 4, 3) = 4; box(4) = 0 115 63 10 4");
        runs.run("of a hidden TAB", owners + """
                drag(0, 1, 4); about(1, 4) = 0; open(3, 20, 10, 1) = 3; box(3) = 0 90 45 20 10
                """);
        runs.run("where the OWNER is now", owners + """
                move(2, 3, 4); share(0, 0, 80); open(3, 20, 10, 2) = 3; box(3) = 0 13 14 20 10
                open(3, 20, 10, 1) = 4; box(4) = 0 170 45 20 10
                """);
        runs.run("not (10 times its number)", owners + "open(3, 40, 30, 2) = 3; box(3) = 0 100 50 40 30");
    }

    private static void dialogsArePutByFloor() {
        int[] sizes = {17, 18, 19, 20, 21, 22, 23, 24};
        int[] places = {51, 51, 50, 50, 49, 49, 48, 48};
        for (int i = 0; i < sizes.length; i++) {
            runs.run("/ cuts towards below: " + sizes[i] + " on 20", """
                    screen(0, 200, 200); open(2, 20, 20, -1) = 0; move(0, 50, 50)
                    open(3, %1$d, 20, 0) = 1; box(1) = 0 %2$d 50 %1$d 20; open(3, 20, %1$d, 0) = 2
                    box(2) = 0 50 %2$d 20 %1$d
                    """.formatted(sizes[i], places[i]));
        }
    }

    private static void dialogsArePutWhole() {
        String corner = "screen(0, 100, 80); open(2, 10, 10, -1) = 0; move(0, 90, 70)\n";
        runs.run("just whole", corner + "open(3, 10, 10, 0) = 1; box(1) = 0 90 70 10 10");
        runs.run("PUT nearer", corner + """
                open(3, 11, 11, 0) = 1; box(1) = 0 89 69 11 11; open(3, 12, 14, 0) = 2; box(2) = 0 88 66 12 14
                """);
        runs.run("PUT at 0", """
                screen(0, 100, 80); open(2, 10, 10, -1) = 0; open(3, 11, 11, 0) = 1; box(1) = 0 0 0 11 11
                open(3, 30, 12, 0) = 2; box(2) = 0 0 0 30 12
                """);
        runs.run("just as large as the SCREEN", corner + "open(3, 100, 80, 0) = 1; box(1) = 0 0 0 100 80");
        runs.changesNothing("can't be whole", corner, "open(3, 101, 80, 0) = NO; open(3, 100, 81, 0) = NO");
        runs.run("whole on its OWNER's SCREEN, not on that at hand", """
                screen(0, 200, 100); screen(1, 50, 50); open(1, 5, 5, -1) = 0; gone(0) = 1; open(1, 5, 5, -1) = 1
                screen(0, 200, 100) = 1
                open(3, 51, 5, 1) = NO; open(3, 5, 51, 1) = NO; open(3, 50, 50, 1) = 2; area(2, 0) = 1
                open(3, 200, 100, 0) = 3; area(3, 0) = 0
                """);
    }

    private static void openedOnesAreFocused() {
        runs.run("It is FOCUSED then", """
                screen(0, 60, 60); open(1, 40, 40, -1) = 0; open(1, 40, 40, -1) = 1; leaf(0, 0) = 1 0 1
                focusRow() = 1 0
                open(2, 5, 5, -1) = 2; open(3, 5, 5, 0) = 3; focusRow() = 3 2 1 0; stack() = 2 3; leaf(0, 0) = 1 0 1
                open(4, 5, 5, -1) = 4; stack() = 2 3 4; focusRow() = 4 3 2 1 0; count(4) = 4
                """);
    }

    private static String ten() {
        StringBuilder ten = new StringBuilder("screen(0, 100, 100); open(4, 5, 5, -1) = 0\n");
        for (int i = 1; i <= 9; i++) {
            ten.append("open(%d, 5, 5, -1) = %d\n".formatted(1 + i % 2, i));
        }
        return ten.toString();
    }

    private static void openRefusedInOrder() {
        runs.changesNothing("BAD ahead of FULL and NO", ten(), """
                open(0, 5, 5, -1) = BAD; open(5, 5, 5, -1) = BAD; open(1, 0, 5, -1) = BAD; open(1, 5, 201, -1) = BAD
                open(2, 5, 5, 0) = BAD
                open(3, 5, 5, -1) = BAD; open(3, 5, 5, 10) = BAD; open(3, 0, 5, 0) = BAD; open(3, 5, 201, 0) = BAD
                open(1, 201, 201, -1) = BAD
                """);
        runs.changesNothing("FULL ahead of NO", ten(), """
                open(3, 5, 5, 0) = FULL; open(1, 101, 5, -1) = FULL; open(2, 101, 5, -1) = FULL
                open(3, 101, 5, 1) = FULL; open(4, 200, 200, -1) = FULL
                """);
        runs.run("FULL with ten, not with nine", ten() + """
                close(9); open(2, 101, 5, -1) = NO; open(3, 5, 5, 0) = NO; open(2, 5, 5, -1) = 9
                open(2, 5, 5, -1) = FULL
                """);
        runs.changesNothing("BAD ahead of NO: there is no SCREEN", "", """
                open(0, 5, 5, -1) = BAD; open(5, 5, 5, -1) = BAD; open(1, 0, 5, -1) = BAD; open(2, 5, 201, -1) = BAD
                open(4, 5, 5, 0) = BAD; open(3, 5, 5, 0) = BAD
                """);
        runs.changesNothing("NO: there is no SCREEN", "", """
                open(1, 5, 5, -1) = NO; open(2, 5, 5, -1) = NO; open(4, 5, 5, -1) = NO
                """);
        runs.run("there is one", "open(1, 5, 5, -1) = NO; screen(2, 40, 40) = 0; open(1, 5, 5, -1) = 0");
        runs.changesNothing("BAD ahead of NO: the owner is STICKY", "screen(0, 100, 100); open(4, 5, 5, -1) = 0",
                "open(3, 0, 5, 0) = BAD; open(3, 5, 201, 0) = BAD; open(3, 5, 5, 0) = NO; open(3, 101, 5, 0) = NO");
    }

    private static void closedWithAllTheirDialogs() {
        String desk = """
                screen(0, 100, 100); open(2, 5, 5, -1) = 0; open(2, 5, 5, -1) = 1; open(3, 5, 5, 0) = 2
                open(3, 5, 5, 2) = 3
                open(3, 5, 5, 0) = 4; open(3, 5, 5, 3) = 5; open(3, 5, 5, 1) = 6
                """;
        runs.run("all DIALOGS whose OWNER is no more, and so on", desk + """
                close(0) = 5; count(1) = 2; focusRow() = 6 1; stack() = 1 6
                """);
        runs.run("its own alone", desk + "close(2) = 3; focusRow() = 6 4 1 0; about(3, 0) = BAD; about(5, 0) = BAD");
        runs.run("the last of a chain", desk + "close(5) = 1; focusRow() = 6 4 3 2 1 0");
        runs.run("an OWNER stays", desk + "close(6) = 1; about(1, 0) = 2; close(1) = 1");
        runs.run("of a TILED one, too", """
                screen(0, 100, 100); open(1, 5, 5, -1); open(3, 5, 5, 0); open(3, 5, 5, 1); close(0) = 3
                count(1) = 0; told(0, 2) = 0; told(0, 6) = 0
                """);
        runs.run("whatever the order of the numbers", """
                screen(0, 100, 100); open(2, 5, 5, -1) = 0; open(2, 5, 5, -1) = 1; open(2, 5, 5, -1) = 2
                open(2, 5, 5, -1) = 3
                close(0); open(3, 5, 5, 3) = 0; close(1); open(3, 5, 5, 0) = 1; close(2); open(3, 5, 5, 1) = 2
                close(3) = 4; count(1) = 0
                """);
        StringBuilder chain = new StringBuilder("screen(0, 100, 100); open(2, 5, 5, -1) = 0\n");
        for (int i = 1; i <= 9; i++) {
            chain.append("open(3, 5, 5, %d) = %d\n".formatted(i - 1, i));
        }
        runs.run("a chain of ten", chain + "close(0) = 10; count(1) = 0; count(4) = NONE");
        runs.run("a chain of ten, but the first", chain + "close(1) = 9; focusRow() = 0");
        runs.run("a number's next WINDOW has none of the DIALOGS before", desk + """
                close(2) = 3; open(2, 5, 5, -1) = 2; close(2) = 1; close(0) = 2
                """);
    }

    private static final String TABS = """
            screen(0, 60, 60); open(1, 40, 40, -1); open(1, 40, 40, -1); open(1, 40, 40, -1); open(1, 40, 40, -1)
            """;

    private static void aShownTabThatGoes() {
        runs.run("the first: the one behind it", TABS + "focus(0); close(0) = 1; leaf(0, 0) = 1 1 2 3");
        runs.run("the second: the one behind it", TABS + "focus(1); close(1) = 1; leaf(0, 0) = 2 0 2 3");
        runs.run("the last but one: the last", TABS + "focus(2); close(2) = 1; leaf(0, 0) = 3 0 1 3");
        runs.run("the last: the last one then", TABS + "focus(3); close(3) = 1; leaf(0, 0) = 2 0 1 2");
        runs.run("of two the first", TABS + "close(3); close(2); focus(0); close(0); leaf(0, 0) = 1 1");
        runs.run("of two the last", TABS + "close(3); close(2); focus(1); close(1); leaf(0, 0) = 0 0");
        runs.run("behind it by place, not by number", TABS + """
                drag(1, 3, 4); drag(0, 3, 4); leaf(0, 0) = 0 2 3 1 0; focus(3); close(3); leaf(0, 0) = 1 2 1 0
                """);
        runs.run("of its own LEAF", """
                screen(0, 200, 100); open(1, 5, 5, -1); open(1, 5, 5, -1); open(1, 5, 5, -1); open(1, 5, 5, -1)
                drag(2, 0, 4); drag(3, 1, 4); leaf(0, 0) = 2 0 2; leaf(0, 1) = 3 1 3
                close(2); leaf(0, 0) = 0 0; leaf(0, 1) = 3 1 3; focus(1); close(1); leaf(0, 1) = 3 3
                """);
        runs.run("dragged away (as if closed)", TABS + """
                screen(0, 100, 60); focus(1); drag(1, 0, 4) = 0; leaf(0, 0) = 1 0 2 3 1
                """);
        runs.run("dragged out of its LEAF (as if closed)", """
                screen(0, 200, 100); open(1, 5, 5, -1); open(1, 5, 5, -1); open(1, 5, 5, -1)
                drag(1, 0, 4); drag(2, 0, 4); focus(0); drag(0, 2, 1) = 0; leaf(0, 0) = 1 1 2; leaf(0, 1) = 0 0
                """);
    }

    private static void aHiddenTabThatGoes() {
        runs.run("if it was SHOWN: ahead of it", TABS + "focus(2); close(0); leaf(0, 0) = 2 1 2 3");
        runs.run("if it was SHOWN: just ahead", TABS + "focus(2); close(1); leaf(0, 0) = 2 0 2 3");
        runs.run("if it was SHOWN: just behind", TABS + "focus(2); close(3); leaf(0, 0) = 2 0 1 2");
        runs.run("dragged away", TABS + "focus(2); screen(0, 100, 60); drag(0, 1, 4); leaf(0, 0) = 0 1 2 3 0");
    }

    private static void aLeafWithoutTabsGoes() {
        runs.run("a LEAF without TABS goes", """
                screen(0, 100, 100); open(1, 5, 5, -1); open(1, 5, 5, -1); told(0, 2) = 2; close(0); told(0, 2) = 1
                told(0, 3) = 0; leaf(0, 0) = 1 1; box(1) = 0 0 0 100 100
                """);
        runs.run("one with TABS stays", """
                screen(0, 100, 100); open(1, 5, 5, -1); open(1, 5, 5, -1); open(1, 5, 5, -1); drag(2, 0, 4)
                close(0); told(0, 2) = 2; leaf(0, 0) = 2 2; box(2) = 0 0 0 50 100
                """);
        runs.run("the only one", """
                screen(0, 100, 100); open(1, 5, 5, -1); close(0); told(0, 2) = 0; told(0, 3) = 0
                tab(0, 0, -1) = NONE
                """);
        runs.run("when its one TAB is dragged away", """
                screen(0, 100, 100); open(1, 5, 5, -1); open(1, 5, 5, -1); drag(0, 1, 4); told(0, 2) = 1
                told(0, 3) = 0; leaf(0, 0) = 0 1 0
                """);
    }

    /** 0 | (1 / (2 | 3)), with shares 30, 40, 60. */
    private static final String NESTED = """
            screen(0, 200, 100); open(1, 1, 1, -1) = 0; open(1, 1, 1, -1) = 1; drag(1, 0, 1); open(1, 1, 1, -1) = 2
            drag(2, 1, 3)
            open(1, 1, 1, -1) = 3; drag(3, 2, 1); share(0, 0, 30) = 50; share(1, 1, 40) = 50; share(3, 0, 60) = 50
            box(0) = 0 0 0 60 100; box(1) = 0 60 0 140 40; box(2) = 0 60 40 84 60; box(3) = 0 144 40 56 60
            """;

    private static void theCutBecomesItsOtherTree() {
        runs.run("the first LEAF goes: the second tree, a CUT", NESTED + """
                close(0); box(1) = 0 0 0 200 40; box(2) = 0 0 40 120 60; box(3) = 0 120 40 80 60
                share(1, 1, 50) = 40; share(1, 0, 50) = NO; share(2, 0, 50) = 60
                """);
        runs.run("one in the middle goes", NESTED + """
                close(1); box(0) = 0 0 0 60 100; box(2) = 0 60 0 84 100; box(3) = 0 144 0 56 100
                share(2, 1, 50) = NO; share(2, 0, 50) = 60; share(0, 0, 50) = 30
                """);
        runs.run("the second goes: the first, a LEAF", NESTED + """
                close(3); box(0) = 0 0 0 60 100; box(1) = 0 60 0 140 40; box(2) = 0 60 40 140 60
                share(2, 0, 50) = 30; share(2, 1, 50) = 40
                """);
        runs.run("the first goes: the second, a LEAF", NESTED + """
                close(2); box(3) = 0 60 40 140 60; share(3, 0, 50) = 30; share(3, 1, 50) = 40
                """);
        runs.run("until one is left", NESTED + """
                close(2); close(0); box(1) = 0 0 0 200 40; box(3) = 0 0 40 200 60; close(1); box(3) = 0 0 0 200 100
                told(0, 3) = 0; close(3); told(0, 2) = 0
                """);
        runs.run("the order stays", NESTED + """
                close(1); leaf(0, 0) = 0 0; leaf(0, 1) = 2 2; leaf(0, 2) = 3 3; tab(0, 3, 0) = NONE
                """);
    }

    private static void focusAfterClosing() {
        runs.run("(The first of THE FOCUS ROW has FOCUS then)", """
                screen(0, 100, 100); open(2, 5, 5, -1); open(2, 5, 5, -1); open(2, 5, 5, -1); focus(0)
                focusRow() = 0 2 1
                close(0); count(4) = 2; close(1); count(4) = 2; close(2); count(4) = NONE
                """);
        runs.run("nothing is SHOWN by that", TABS + """
                focus(0); focus(2); close(2); count(4) = 0; leaf(0, 0) = 3 0 1 3; about(0, 4) = 0
                """);
        runs.run("nothing is RAISED by that", """
                screen(0, 100, 100); open(2, 5, 5, -1) = 0; open(2, 5, 5, -1) = 1; open(1, 5, 5, -1) = 2
                open(3, 5, 5, 2) = 3; open(2, 5, 5, -1) = 4
                focus(0); focus(1); focus(0); stack() = 3 4 1 0; focus(4); stack() = 3 1 0 4; focus(2)
                stack() = 1 0 4 3; focus(4); close(4)
                count(4) = 2; stack() = 1 0 3; close(2) = 2; count(4) = 0; stack() = 1 0; close(0); stack() = 1
                """);
    }

    private static void closeRefused() {
        runs.changesNothing("BAD: no such WINDOW", """
                screen(0, 100, 100); open(2, 5, 5, -1); open(2, 5, 5, -1); close(0)
                """, "close(0) = BAD; close(2) = BAD; close(-1) = BAD; close(10) = BAD");
        runs.changesNothing("BAD: no such WINDOW", "", "close(0) = BAD; close(9) = BAD");
    }
}

/** 'Terms', section 2: trees, leaves, tabs, cuts and shares, LEAST, FITS and AREA. A method a sentence. */
public final class Terms2Test {
    private static final Runs runs = new Runs();

    /** 0 | (1 / 2), all least sizes 10. */
    private static final String THREE = """
            screen(0, 100, 100); open(1, 10, 10, -1) = 0; open(1, 10, 10, -1) = 1; open(1, 10, 10, -1) = 2
            """;

    public static void main(String[] args) {
        aTreeIsEmptyAtFirst();
        aTreeIsEmptyAgain();
        oneTabOfALeafIsShown();
        aCutIsAcrossOrDown();
        sharesAreTenToNinety();
        leavesOfTheFirstTreeAreAhead();
        leastOfALeaf();
        leastOfACutAcross();
        leastOfACutDown();
        leastOfCutsInCuts();
        aTreeFitsIfItsLeastIsNotAboveTheScreen();
        theAreaOfATreeIsTheWholeScreen();
        theFirstTreeHasItsShareCutTowardsBelow();
        notMoreThanTheLeastOfTheSecondLeaves();
        notLessThanItsOwnLeast();
        leastOfBothLeavesNoChoice();
        theSecondHasWhatIsLeft();
        leastOfWholeTreesCounts();
        allTabsHaveTheAreaOfTheirLeaf();
        areasFillTheScreenToThePoint();
        runs.end();
    }

    private static void aTreeIsEmptyAtFirst() {
        String empty = """
                told(0, 2) = 0; told(0, 3) = 0; told(0, 4) = 0; told(0, 5) = 0
                tab(0, 0, 0) = NONE; tab(0, 0, -1) = NONE; tab(0, 0, -2) = NONE
                """;
        runs.changesNothing("empty (at first)", "screen(0, 100, 100)", empty + """
                at(0, 0, 0) = NONE; at(0, 99, 99) = NONE
                """);
        runs.changesNothing("FLOATING ones are not in it",
                "screen(0, 100, 100); open(2, 10, 10, -1); open(3, 10, 10, 0); open(4, 10, 10, -1)", empty);
        runs.run("one WINDOW, one LEAF, no CUT", "screen(0, 100, 100); open(1, 9, 8, -1) = 0\n" + """
                told(0, 2) = 1; told(0, 3) = 0; told(0, 4) = 9; told(0, 5) = 8; leaf(0, 0) = 0 0; tab(0, 1, 0) = NONE
                """);
        runs.run("two LEAVES, one CUT", "screen(0, 100, 100); open(1, 9, 8, -1); open(1, 9, 8, -1)\n" + """
                told(0, 2) = 2; told(0, 3) = 1; leaf(0, 0) = 0 0; leaf(0, 1) = 1 1; tab(0, 2, 0) = NONE
                """);
    }

    private static void aTreeIsEmptyAgain() {
        String empty = """
                told(0, 2) = 0; told(0, 3) = 0; told(0, 4) = 0; told(0, 5) = 0; tab(0, 0, -1) = NONE
                at(0, 0, 0) = NONE
                """;
        runs.run("its last one is closed",
                THREE + "close(1); close(0); close(2)\n" + empty + "open(1, 100, 100, -1) = 0");
        runs.run("its last one is dragged away", """
                screen(0, 100, 100); screen(1, 100, 100); open(1, 10, 10, -1) = 0
                gone(0) = 1; open(1, 10, 10, -1) = 1; screen(0, 100, 100) = 1; drag(0, 1, 0) = 0
                """ + empty + "focus(1); told(1, 2) = 2");
        runs.run("it went and nothing came back", THREE + """
                screen(1, 100, 100); gone(0) = 3; close(0); screen(0, 100, 100) = 0
                """ + empty);
        runs.run("all that were there came back elsewhere", THREE + """
                screen(1, 100, 100); gone(0) = 3; screen(0, 100, 100) = 3
                told(1, 2) = 0; told(1, 3) = 0; told(1, 4) = 0; told(1, 5) = 0; tab(1, 0, -1) = NONE
                """);
    }

    private static void oneTabOfALeafIsShown() {
        String tabs = "screen(0, 60, 60); open(1, 40, 40, -1); open(1, 40, 40, -1); open(1, 40, 40, -1)\n";
        runs.run("of which one is SHOWN", tabs + """
                told(0, 2) = 1; told(0, 3) = 0; leaf(0, 0) = 2 0 1 2
                about(0, 4) = 0; about(1, 4) = 0; about(2, 4) = 1
                focus(0); leaf(0, 0) = 0 0 1 2; about(0, 4) = 1; about(1, 4) = 0; about(2, 4) = 0
                focus(1); leaf(0, 0) = 1 0 1 2; about(0, 4) = 0; about(1, 4) = 1; about(2, 4) = 0
                """);
        runs.run("in each LEAF one", THREE + "about(0, 4) = 1; about(1, 4) = 1; about(2, 4) = 1");
    }

    private static void aCutIsAcrossOrDown() {
        String two = "screen(0, 120, 100); open(1, 10, 10, -1); open(1, 10, 10, -1)\n";
        runs.run("ACROSS (side by side)", two + "box(0) = 0 0 0 60 100; box(1) = 0 60 0 60 100");
        runs.run("DOWN (one above the other)", two + "drag(1, 0, 3); box(0) = 0 0 0 120 50; box(1) = 0 0 50 120 50");
        runs.run("the first (left)", two + "drag(1, 0, 0); box(1) = 0 0 0 60 100; box(0) = 0 60 0 60 100");
        runs.run("the first (upper)", two + "drag(1, 0, 2); box(1) = 0 0 0 120 50; box(0) = 0 0 50 120 50");
    }

    private static void sharesAreTenToNinety() {
        String two = "screen(0, 200, 100); open(1, 1, 1, -1); open(1, 1, 1, -1)\n";
        for (int v : new int[] {10, 11, 49, 50, 51, 89, 90}) {
            runs.run("a SHARE 10 .. 90, ACROSS", two + """
                    share(0, 0, %1$d) = 50; box(0) = 0 0 0 %2$d 100; box(1) = 0 %2$d 0 %3$d 100; share(1, 0, 50) = %1$d
                    """.formatted(v, 2 * v, 200 - 2 * v));
            runs.run("a SHARE 10 .. 90, DOWN", two + """
                    drag(1, 0, 3); share(1, 1, %1$d) = 50; box(0) = 0 0 0 200 %1$d; box(1) = 0 0 %1$d 200 %2$d
                    share(0, 1, 50) = %1$d
                    """.formatted(v, 100 - v));
        }
        for (int v : new int[] {9, 91, 0, -1, -50, 100, Runs.FAR[0], Runs.FAR[1], Runs.FAR[2], Runs.FAR[3]}) {
            String calls = "share(0, 0, %1$d) = BAD; share(1, 0, %1$d) = BAD; share(0, 1, %1$d) = BAD".formatted(v);
            runs.changesNothing("a SHARE 10 .. 90, ACROSS", two, calls);
            runs.changesNothing("a SHARE 10 .. 90, DOWN", two + "drag(1, 0, 3)", calls);
        }
    }

    private static void leavesOfTheFirstTreeAreAhead() {
        runs.run("0 | (1 / 2)", THREE + "leaf(0, 0) = 0 0; leaf(0, 1) = 1 1; leaf(0, 2) = 2 2");
        runs.run("(2 | 0) | 1", THREE + "drag(2, 0, 0); leaf(0, 0) = 2 2; leaf(0, 1) = 0 0; leaf(0, 2) = 1 1");
        runs.run("(0 | 2) | 1", THREE + "drag(2, 0, 1); leaf(0, 0) = 0 0; leaf(0, 1) = 2 2; leaf(0, 2) = 1 1");
        runs.run("(2 / 0) | 1", THREE + "drag(2, 0, 2); leaf(0, 0) = 2 2; leaf(0, 1) = 0 0; leaf(0, 2) = 1 1");
        runs.run("(0 / 2) | 1", THREE + "drag(2, 0, 3); leaf(0, 0) = 0 0; leaf(0, 1) = 2 2; leaf(0, 2) = 1 1");
        runs.run("1 / (0 | 2)", THREE + "drag(0, 2, 0); leaf(0, 0) = 1 1; leaf(0, 1) = 0 0; leaf(0, 2) = 2 2");
        runs.run("1 / (2 | 0)", THREE + "drag(0, 2, 1); leaf(0, 0) = 1 1; leaf(0, 1) = 2 2; leaf(0, 2) = 0 0");
        runs.run("(2 / 1) | (0 / 3)", THREE + """
                open(1, 10, 10, -1) = 3; drag(1, 0, 2); drag(2, 1, 2); drag(0, 3, 2)
                leaf(0, 0) = 2 2; leaf(0, 1) = 1 1; leaf(0, 2) = 0 0; leaf(0, 3) = 3 3; tab(0, 4, 0) = NONE
                """);
    }

    private static void leastOfALeaf() {
        String tabs = "screen(0, 100, 100); open(1, 60, 20, -1); open(1, 51, 81, -1); leaf(0, 0) = 1 0 1\n";
        runs.run("the greatest least width, and the greatest least height", tabs + "told(0, 4) = 60; told(0, 5) = 81");
        runs.run("whichever is SHOWN", tabs + "focus(0); told(0, 4) = 60; told(0, 5) = 81");
        runs.run("the lesser of three does not count", tabs + """
                open(1, 5, 6, -1) = 2; drag(2, 0, 4) = 0; leaf(0, 0) = 2 0 1 2; told(0, 4) = 60; told(0, 5) = 81
                """);
        runs.run("less, when the greatest goes", tabs + "close(1); told(0, 4) = 60; told(0, 5) = 20");
        runs.run("less, when the widest goes", tabs + "close(0); told(0, 4) = 51; told(0, 5) = 81");
    }

    private static void leastOfACutAcross() {
        runs.run("both trees' widths together, the greater height: the second's", """
                screen(0, 100, 100); open(1, 30, 20, -1); open(1, 21, 40, -1); told(0, 3) = 1; told(0, 4) = 51
                told(0, 5) = 40
                """);
        runs.run("the greater height: the first's", """
                screen(0, 100, 100); open(1, 30, 41, -1); open(1, 21, 40, -1); told(0, 3) = 1; told(0, 4) = 51
                told(0, 5) = 41
                """);
    }

    private static void leastOfACutDown() {
        runs.run("the greater width, both heights together: the first's", """
                screen(0, 100, 100); open(1, 30, 20, -1); open(1, 21, 40, -1); drag(1, 0, 3) = 0; told(0, 4) = 30
                told(0, 5) = 60
                """);
        runs.run("the greater width: the second's", """
                screen(0, 100, 100); open(1, 20, 20, -1); open(1, 21, 40, -1); drag(1, 0, 3) = 0; told(0, 4) = 21
                told(0, 5) = 60
                """);
    }

    private static void leastOfCutsInCuts() {
        runs.run("30x20 | (20x40 / 45x10)", """
                screen(0, 100, 100); open(1, 30, 20, -1); open(1, 20, 40, -1); open(1, 45, 10, -1)
                told(0, 2) = 3; told(0, 4) = 75; told(0, 5) = 50
                """);
        runs.run("(30x20 | 20x40) / 45x10", """
                screen(0, 100, 100); open(1, 30, 20, -1); open(1, 45, 10, -1); drag(1, 0, 3); focus(0)
                open(1, 20, 40, -1)
                told(0, 2) = 3; told(0, 4) = 50; told(0, 5) = 50
                """);
    }

    private static void aTreeFitsIfItsLeastIsNotAboveTheScreen() {
        String leaf = "screen(0, 200, 200); open(1, 60, 50, -1)\n";
        runs.run("a LEAF, just", leaf + "screen(0, 60, 50) = 0; told(0, 0) = 60; box(0) = 0 0 0 60 50");
        runs.run("a LEAF, one point more", leaf + "screen(0, 61, 51) = 0; box(0) = 0 0 0 61 51");
        runs.changesNothing("a LEAF, one point less", leaf, """
                screen(0, 59, 200) = NO; screen(0, 200, 49) = NO; screen(0, 59, 49) = NO
                """);
        String across = leaf + "open(1, 50, 70, -1); told(0, 4) = 110; told(0, 5) = 70\n";
        runs.run("ACROSS, just", across + "screen(0, 110, 70) = 0; box(0) = 0 0 0 60 70; box(1) = 0 60 0 50 70");
        runs.run("ACROSS, one point more", across + """
                screen(0, 111, 71) = 0; box(0) = 0 0 0 60 71; box(1) = 0 60 0 51 71
                """);
        runs.changesNothing("ACROSS, one point less", across, """
                screen(0, 109, 200) = NO; screen(0, 200, 69) = NO; screen(0, 109, 69) = NO
                """);
        String down = across + "drag(1, 0, 3); told(0, 4) = 60; told(0, 5) = 120\n";
        runs.run("DOWN, just", down + "screen(0, 60, 120) = 0; box(0) = 0 0 0 60 50; box(1) = 0 0 50 60 70");
        runs.run("DOWN, one point more", down + "screen(0, 61, 121) = 0; box(0) = 0 0 0 61 51; box(1) = 0 0 51 61 70");
        runs.changesNothing("DOWN, one point less", down, """
                screen(0, 59, 200) = NO; screen(0, 200, 119) = NO; screen(0, 59, 119) = NO
                """);
        runs.run("an empty one FITS every SCREEN", "screen(0, 400, 400) = 0; screen(0, 40, 40) = 0; told(0, 0) = 40");
    }

    private static void theAreaOfATreeIsTheWholeScreen() {
        for (int w : new int[] {40, 41, 399, 400}) {
            runs.run("ITS AREA is the whole SCREEN", """
                    screen(0, 100, 77) = 0; open(1, 9, 9, -1); box(0) = 0 0 0 100 77
                    screen(0, %1$d, 77) = 0; box(0) = 0 0 0 %1$d 77; screen(0, 77, %1$d) = 0; box(0) = 0 0 0 77 %1$d
                    """.formatted(w));
        }
    }

    private static void theFirstTreeHasItsShareCutTowardsBelow() {
        runs.run("w * SHARE / 100 at 10", """
                screen(0, 100, 50); open(1, 1, 1, -1); open(1, 1, 1, -1); share(0, 0, 10); area(0, 3) = 10
                screen(0, 101, 50); area(0, 3) = 10; screen(0, 109, 50); area(0, 3) = 10; screen(0, 110, 50)
                area(0, 3) = 11
                screen(0, 99, 50); area(0, 3) = 9
                """);
        runs.run("w * SHARE / 100 at 90", """
                screen(0, 100, 50); open(1, 1, 1, -1); open(1, 1, 1, -1); share(0, 0, 90); area(0, 3) = 90
                screen(0, 101, 50); area(0, 3) = 90; screen(0, 109, 50); area(0, 3) = 98; screen(0, 110, 50)
                area(0, 3) = 99
                screen(0, 99, 50); area(0, 3) = 89; screen(0, 400, 50); area(0, 3) = 360
                """);
        for (int share : new int[] {10, 33, 50, 67, 90}) {
            for (int size : new int[] {40, 41, 57, 99, 100, 101, 199, 399, 400}) {
                int part = size * share / 100;
                runs.run("w * SHARE / 100", """
                        screen(0, 400, 400); open(1, 1, 1, -1); open(1, 1, 1, -1); share(0, 0, %1$d)
                        screen(0, %2$d, 40)
                        box(0) = 0 0 0 %3$d 40; box(1) = 0 %3$d 0 %4$d 40
                        """.formatted(share, size, part, size - part));
                runs.run("DOWN likewise with heights", """
                        screen(0, 400, 400); open(1, 1, 1, -1); open(1, 1, 1, -1); drag(1, 0, 3); share(0, 1, %1$d)
                        screen(0, 40, %2$d)
                        box(0) = 0 0 0 40 %3$d; box(1) = 0 0 %3$d 40 %4$d
                        """.formatted(share, size, part, size - part));
            }
        }
    }

    private static void notMoreThanTheLeastOfTheSecondLeaves() {
        for (int least : new int[] {49, 50, 51, 52}) {
            int first = Math.min(50, 100 - least);
            runs.run("not more than w less the LEAST width of the second", """
                    screen(0, 100, 100); open(1, 1, 1, -1); open(1, %1$d, 1, -1); told(0, 3) = 1
                    box(0) = 0 0 0 %2$d 100; box(1) = 0 %2$d 0 %3$d 100
                    """.formatted(least, first, 100 - first));
            runs.run("likewise with heights", """
                    screen(0, 99, 100); open(1, 1, 1, -1); open(1, 1, %1$d, -1); told(0, 3) = 1
                    box(0) = 0 0 0 99 %2$d; box(1) = 0 0 %2$d 99 %3$d
                    """.formatted(least, first, 100 - first));
        }
    }

    private static void notLessThanItsOwnLeast() {
        for (int least : new int[] {49, 50, 51, 52}) {
            int first = Math.max(50, least);
            runs.run("and not less than its own LEAST", """
                    screen(0, 100, 100); open(1, %1$d, 1, -1); open(1, 1, 1, -1); told(0, 3) = 1
                    box(0) = 0 0 0 %2$d 100; box(1) = 0 %2$d 0 %3$d 100
                    """.formatted(least, first, 100 - first));
            runs.run("likewise with heights", """
                    screen(0, 99, 100); open(1, 1, %1$d, -1); open(1, 1, 1, -1); told(0, 3) = 1
                    box(0) = 0 0 0 99 %2$d; box(1) = 0 0 %2$d 99 %3$d
                    """.formatted(least, first, 100 - first));
        }
    }

    private static void leastOfBothLeavesNoChoice() {
        for (int share : new int[] {10, 50, 59, 60, 61, 90}) {
            runs.run("60 and 40 of 100", """
                    screen(0, 100, 100); open(1, 60, 1, -1); open(1, 40, 1, -1); share(0, 0, %1$d) = 50
                    box(0) = 0 0 0 60 100; box(1) = 0 60 0 40 100; share(0, 0, 50) = %1$d
                    """.formatted(share));
            int first = share <= 60 ? 60 : 61;
            runs.run("60 and 39 of 100", """
                    screen(0, 100, 100); open(1, 60, 1, -1); open(1, 39, 1, -1); share(1, 0, %1$d) = 50
                    box(0) = 0 0 0 %2$d 100; box(1) = 0 %2$d 0 %3$d 100
                    """.formatted(share, first, 100 - first));
            runs.run("60 and 39 of 100, DOWN", """
                    screen(0, 99, 100); open(1, 1, 60, -1); open(1, 1, 39, -1); share(1, 1, %1$d) = 50
                    box(0) = 0 0 0 99 %2$d; box(1) = 0 0 %2$d 99 %3$d
                    """.formatted(share, first, 100 - first));
        }
    }

    private static void theSecondHasWhatIsLeft() {
        runs.run("the second what is left; both all the height", """
                screen(0, 101, 83); open(1, 1, 1, -1); open(1, 1, 1, -1); share(0, 0, 33)
                box(0) = 0 0 0 33 83; box(1) = 0 33 0 68 83
                """);
        runs.run("the second what is left; both all the width", """
                screen(0, 83, 101); open(1, 1, 1, -1); open(1, 1, 1, -1); share(0, 1, 33)
                box(0) = 0 0 0 83 33; box(1) = 0 0 33 83 68
                """);
        runs.run("a CUT in the second begins where that does", """
                screen(0, 101, 83); open(1, 1, 1, -1); open(1, 1, 1, -1); share(0, 0, 33); open(1, 1, 1, -1)
                share(2, 1, 25)
                box(0) = 0 0 0 33 83; box(1) = 0 33 0 68 20; box(2) = 0 33 20 68 63
                drag(0, 2, 1); box(1) = 0 0 0 101 20; box(2) = 0 0 20 50 63; box(0) = 0 50 20 51 63
                """);
    }

    private static void leastOfWholeTreesCounts() {
        runs.run("the second is a CUT: 0 | (1 | 2)", """
                screen(0, 100, 100); open(1, 1, 1, -1); open(1, 30, 1, -1); open(1, 31, 1, -1); drag(2, 1, 1)
                box(0) = 0 0 0 39 100; box(1) = 0 39 0 30 100; box(2) = 0 69 0 31 100
                """);
        runs.run("the first is a CUT: (0 | 2) | 1", """
                screen(0, 100, 100); open(1, 30, 1, -1); open(1, 1, 1, -1); open(1, 31, 1, -1); drag(2, 0, 1)
                box(0) = 0 0 0 30 100; box(2) = 0 30 0 31 100; box(1) = 0 61 0 39 100
                """);
        runs.run("DOWN, the second is a CUT: 0 / (1 / 2)", """
                screen(0, 99, 100); open(1, 1, 1, -1); open(1, 1, 30, -1); open(1, 1, 31, -1); drag(2, 1, 3)
                box(0) = 0 0 0 99 39; box(1) = 0 0 39 99 30; box(2) = 0 0 69 99 31
                """);
        runs.run("DOWN, the first is a CUT: (0 / 2) / 1", """
                screen(0, 99, 100); open(1, 1, 30, -1); open(1, 1, 1, -1); open(1, 1, 31, -1); drag(2, 0, 3)
                box(0) = 0 0 0 99 30; box(2) = 0 0 30 99 31; box(1) = 0 0 61 99 39
                """);
        runs.run("a hidden TAB's LEAST counts", """
                screen(0, 100, 100); open(1, 1, 1, -1); open(1, 1, 1, -1); open(1, 70, 1, -1)
                drag(2, 1, 4); focus(1); leaf(0, 1) = 1 1 2; box(0) = 0 0 0 30 100; box(1) = 0 30 0 70 100
                """);
    }

    private static void allTabsHaveTheAreaOfTheirLeaf() {
        runs.run("All TABS of a LEAF have its AREA", THREE + """
                drag(0, 2, 4); leaf(0, 1) = 0 2 0; box(0) = 0 0 50 100 50; box(2) = 0 0 50 100 50; box(1) = 0 0 0 100 50
                share(1, 1, 20); box(0) = 0 0 20 100 80; box(2) = 0 0 20 100 80; about(2, 4) = 0
                """);
    }

    private static void areasFillTheScreenToThePoint() {
        for (int y = 0; y < 43; y++) {
            StringBuilder points = new StringBuilder(THREE).append("screen(0, 41, 43)\n");
            for (int x = 0; x < 41; x++) {
                points.append("at(0, %d, %d) = %d\n".formatted(x, y, x < 20 ? 0 : y < 21 ? 1 : 2));
            }
            runs.run("trees that fill their screen to the point", points.toString());
        }
    }
}

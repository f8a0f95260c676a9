/** 'Terms', section 3: PUT at the nearest place, STICKY ones, THE STACK, what is AT a point. A method a sentence. */
public final class Terms3Test {
    private static final Runs runs = new Runs();

    public static void main(String[] args) {
        floatingOnesHaveTheirLeastSizes();
        putIsAtLeastZeroAndAtMostWhatIsLeft();
        putOnAScreenThatIsJustAsLarge();
        putWhenTheScreenChangesItsSize();
        putWhenTheScreenGoes();
        putWhenOpened();
        stickyOnesHaveAPlaceUpToFourHundred();
        stickyOnesLieWhereTheScreenIsAsLarge();
        stickyOnesLieAtTheNearestWholePlace();
        stickyOnesLieOnAllScreens();
        stickyOnesKeepTheirPlace();
        theStackHasAllFloatingOnes();
        raisedGoesToTheTop();
        raisedWithDialogsInTheOrderOfTheStack();
        raisedOneByOneWithTheirOwn();
        tiledOnesRaiseTheirDialogs();
        dialogsAreAboveTheirOwners();
        atAPointTheHighestFloatingOne();
        atTheEdgesOfAFloatingOne();
        atAPointElseTheShownTab();
        atAPointElseNone();
        atThePointsThatAScreenHas();
        runs.end();
    }

    private static int nearest(int wanted, int most) {
        return wanted < 0 ? 0 : wanted > most ? most : wanted;
    }

    private static void floatingOnesHaveTheirLeastSizes() {
        runs.run("at a place with their least sizes", """
                screen(0, 300, 300); open(2, 31, 47, -1) = 0; open(3, 200, 1, 0) = 1; open(4, 1, 200, -1) = 2
                box(0) = 0 0 0 31 47; area(1, 3) = 200; area(1, 4) = 1; area(2, 3) = 1; area(2, 4) = 200
                screen(0, 400, 400); area(0, 3) = 31; area(0, 4) = 47
                """);
    }

    private static void putIsAtLeastZeroAndAtMostWhatIsLeft() {
        String before = """
                screen(0, 100, 80); open(2, 30, 20, -1) = 0; open(3, 30, 20, 0) = 1; move(0, 5, 6); move(1, 7, 8)
                """;
        for (int window = 0; window <= 1; window++) {
            for (int x : new int[] {-1000, -1, 0, 1, 69, 70, 71, 1000}) {
                runs.run("x is at least 0 and at most the SCREEN's width less theirs", before + """
                        move(%1$d, %2$d, 9) = 0; box(%1$d) = 0 %3$d 9 30 20
                        """.formatted(window, x, nearest(x, 70)));
            }
            for (int y : new int[] {-1000, -1, 0, 1, 59, 60, 61, 1000}) {
                runs.run("y likewise (the nearest such)", before + """
                        move(%1$d, 9, %2$d) = 0; box(%1$d) = 0 9 %3$d 30 20
                        """.formatted(window, y, nearest(y, 60)));
            }
        }
        runs.run("both at once", before + """
                move(0, -3, 90); box(0) = 0 0 60 30 20; move(0, 90, -3); box(0) = 0 70 0 30 20
                """);
    }

    private static void putOnAScreenThatIsJustAsLarge() {
        for (int x : new int[] {-1, 0, 1, 2, 50}) {
            runs.run("as large: only at 0", """
                    screen(0, 100, 80); open(2, 100, 80, -1) = 0; move(0, %1$d, %1$d) = 0; box(0) = 0 0 0 100 80
                    """.formatted(x));
            runs.run("one point less: 0 or 1", """
                    screen(0, 100, 80); open(2, 99, 79, -1) = 0; move(0, %1$d, %1$d) = 0; box(0) = 0 %2$d %2$d 99 79
                    """.formatted(x, nearest(x, 1)));
        }
        runs.changesNothing("one point more can't be whole", "screen(0, 100, 80)", """
                open(2, 101, 80, -1) = NO; open(2, 100, 81, -1) = NO
                """);
    }

    private static void putWhenTheScreenChangesItsSize() {
        String before = """
                screen(0, 100, 80); open(2, 30, 20, -1) = 0; open(3, 10, 10, 0) = 1; move(0, 70, 60); move(1, 0, 0)
                """;
        for (int w : new int[] {99, 100, 101, 69, 71, 40, 400}) {
            runs.run("PUT at their places: x", before + """
                    screen(0, %1$d, 80) = 0; box(0) = 0 %2$d 60 30 20; box(1) = 0 0 0 10 10
                    """.formatted(w, nearest(70, w - 30)));
        }
        for (int h : new int[] {79, 80, 81, 40, 400}) {
            runs.run("PUT at their places: y", before + """
                    screen(0, 100, %1$d) = 0; box(0) = 0 70 %2$d 30 20; box(1) = 0 0 0 10 10
                    """.formatted(h, nearest(60, h - 20)));
        }
        runs.run("where it was PUT it stays", before + """
                screen(0, 50, 50); box(0) = 0 20 30 30 20; screen(0, 100, 80); box(0) = 0 20 30 30 20
                """);
        String large = "screen(0, 100, 80); open(2, 50, 60, -1) = 0; move(0, 50, 20)\n";
        runs.run("just whole", large + "screen(0, 50, 60) = 0; box(0) = 0 0 0 50 60");
        runs.run("one point more", large + "screen(0, 51, 61) = 0; box(0) = 0 1 1 50 60");
        runs.changesNothing("can't be whole", large, """
                screen(0, 49, 80) = NO; screen(0, 100, 59) = NO; screen(0, 49, 59) = NO
                """);
        runs.changesNothing("a DIALOG can't be whole", """
                screen(0, 100, 80); open(1, 1, 1, -1) = 0; open(3, 50, 60, 0) = 1
                """,
                "screen(0, 49, 80) = NO; screen(0, 100, 59) = NO");
        runs.run("one on another SCREEN does not matter", large + """
                screen(1, 400, 400); gone(0); screen(0, 40, 40) = 0; screen(0, 41, 41) = 0; screen(0, 40, 40) = 0
                """);
    }

    private static void putWhenTheScreenGoes() {
        String before = "screen(0, 100, 80); open(2, 50, 45, -1) = 0; move(0, 50, 35); screen(1, 100, 80)\n";
        for (int w : new int[] {99, 100, 101, 51, 50}) {
            runs.run("PUT there at their places: x", before + """
                    screen(1, %1$d, 80) = 0; gone(0) = 1; box(0) = 1 %2$d 35 50 45
                    """.formatted(w, nearest(50, w - 50)));
        }
        for (int h : new int[] {79, 80, 81, 46, 45}) {
            runs.run("PUT there at their places: y", before + """
                    screen(1, 100, %1$d) = 0; gone(0) = 1; box(0) = 1 50 %2$d 50 45
                    """.formatted(h, nearest(35, h - 45)));
        }
        runs.changesNothing("one point too narrow", before + "screen(1, 49, 80)", "gone(0) = NO");
        runs.changesNothing("one point too low", before + "screen(1, 100, 44)", "gone(0) = NO");
    }

    private static void putWhenOpened() {
        String four = """
                screen(0, 60, 100); open(2, 1, 1, -1); open(2, 1, 1, -1); open(2, 1, 1, -1); open(2, 1, 1, -1)
                """;
        for (int w : new int[] {19, 20, 21, 59, 60}) {
            runs.run("PUT at (10 times its number, the same)", four + """
                    open(2, %1$d, 5, -1) = 4; box(4) = 0 %2$d 40 %1$d 5
                    """.formatted(w, nearest(40, 60 - w)));
        }
        for (int h : new int[] {59, 60, 61, 99, 100}) {
            runs.run("PUT at (10 times its number, the same)", four + """
                    open(2, 5, %1$d, -1) = 4; box(4) = 0 40 %2$d 5 %1$d
                    """.formatted(h, nearest(40, 100 - h)));
        }
        runs.changesNothing("can't be whole", four, "open(2, 61, 5, -1) = NO; open(2, 5, 101, -1) = NO");
        runs.changesNothing("a DIALOG can't be whole", four, "open(3, 61, 5, 0) = NO; open(3, 5, 101, 0) = NO");
        runs.run("a DIALOG just whole", four + "open(3, 60, 100, 0) = 4; box(4) = 0 0 0 60 100");
    }

    private static void stickyOnesHaveAPlaceUpToFourHundred() {
        String before = "screen(0, 100, 80); open(4, 30, 20, -1) = 0; move(0, 5, 6)\n";
        for (int v : new int[] {-1000, -1, 0, 1, 70, 71, 399, 400, 401, 1000}) {
            runs.run("a place 0 .. 400 each", before + """
                    move(0, %1$d, 9) = 0; box(0) = NONE %2$d 9 30 20; move(0, 9, %1$d) = 0; box(0) = NONE 9 %2$d 30 20
                    """.formatted(v, nearest(v, 400)));
        }
        runs.changesNothing("place of a size above 1000", before, """
                move(0, 1001, 0) = BAD; move(0, -1001, 0) = BAD; move(0, 0, 1001) = BAD; move(0, 0, -1001) = BAD
                """);
    }

    private static void stickyOnesLieWhereTheScreenIsAsLarge() {
        runs.run("as large as they are", """
                screen(0, 60, 50); open(4, 60, 50, -1) = 0; at(0, 0, 0) = 0; at(0, 59, 0) = 0; at(0, 0, 49) = 0
                at(0, 59, 49) = 0
                """);
        runs.run("or larger, by a point", """
                screen(0, 60, 50); open(4, 59, 49, -1) = 0; at(0, 58, 48) = 0; at(0, 59, 48) = NONE
                at(0, 58, 49) = NONE
                """);
        runs.changesNothing("too wide by a point", "screen(0, 60, 50); open(4, 61, 50, -1) = 0",
                "at(0, 0, 0) = NONE; at(0, 30, 25) = NONE; at(0, 59, 49) = NONE");
        runs.changesNothing("too high by a point", "screen(0, 60, 50); open(4, 60, 51, -1) = 0",
                "at(0, 0, 0) = NONE; at(0, 30, 25) = NONE; at(0, 59, 49) = NONE");
        runs.run("under one that does not lie there is another", """
                screen(0, 60, 50); open(1, 5, 5, -1) = 0; open(2, 5, 5, -1) = 1; open(4, 61, 50, -1) = 2
                at(0, 0, 0) = 0; at(0, 10, 10) = 1; stack() = 1 2
                """);
    }

    private static void stickyOnesLieAtTheNearestWholePlace() {
        String before = "screen(0, 60, 50); open(4, %d, %d, -1) = 0; move(0, 10, 10)\n";
        runs.run("just whole at its place", before.formatted(50, 40) + """
                at(0, 10, 10) = 0; at(0, 9, 10) = NONE; at(0, 10, 9) = NONE; at(0, 59, 49) = 0; at(0, 59, 9) = NONE
                """);
        runs.run("a point larger, so a point nearer to 0", before.formatted(51, 41) + """
                at(0, 9, 9) = 0; at(0, 8, 9) = NONE; at(0, 9, 8) = NONE; at(0, 59, 49) = 0
                """);
        runs.run("a point smaller", before.formatted(49, 39) + """
                at(0, 10, 10) = 0; at(0, 9, 10) = NONE; at(0, 10, 9) = NONE
                at(0, 58, 48) = 0; at(0, 59, 48) = NONE; at(0, 58, 49) = NONE
                """);
        runs.run("from 400", """
                screen(0, 60, 50); open(4, 7, 5, -1) = 0; move(0, 400, 400); box(0) = NONE 400 400 7 5
                at(0, 53, 45) = 0; at(0, 52, 45) = NONE; at(0, 53, 44) = NONE; at(0, 59, 49) = 0
                """);
        runs.run("from 400, on the greatest SCREEN", """
                screen(0, 400, 400); open(4, 1, 1, -1) = 0; move(0, 399, 399); at(0, 399, 399) = 0
                move(0, 400, 400); at(0, 399, 399) = 0; at(0, 398, 399) = NONE
                """);
    }

    private static void stickyOnesLieOnAllScreens() {
        runs.run("sticky ones on all screens", """
                screen(0, 60, 50); screen(1, 59, 50); open(4, 60, 50, -1) = 0; screen(2, 100, 100); move(0, 30, 45)
                at(0, 0, 0) = 0; at(0, 59, 49) = 0; at(1, 0, 0) = NONE; at(1, 58, 49) = NONE
                at(2, 30, 45) = 0; at(2, 29, 45) = NONE; at(2, 89, 94) = 0; at(2, 90, 94) = NONE; at(2, 89, 95) = NONE
                screen(1, 60, 49); at(1, 0, 0) = NONE; screen(1, 60, 50); at(1, 0, 0) = 0
                told(0, 6) = 0; told(1, 6) = 0; told(2, 6) = 0; area(0, 0) = NONE
                """);
        runs.run("no SCREEN's going or coming touches them", """
                screen(0, 60, 50); open(4, 60, 50, -1) = 0; screen(1, 40, 40); move(0, 77, 88); gone(0) = 0
                box(0) = NONE 77 88 60 50; at(1, 0, 0) = NONE; count(5) = 0; screen(0, 60, 50) = 0; at(0, 59, 49) = 0
                """);
    }

    private static void stickyOnesKeepTheirPlace() {
        runs.run("PUT on no SCREEN", """
                screen(0, 100, 100); open(4, 60, 50, -1) = 0; move(0, 90, 80); at(0, 40, 50) = 0; at(0, 39, 50) = NONE
                screen(0, 60, 50) = 0; box(0) = NONE 90 80 60 50; screen(0, 40, 40) = 0; box(0) = NONE 90 80 60 50
                screen(0, 400, 400) = 0; at(0, 90, 80) = 0; at(0, 89, 80) = NONE; at(0, 149, 129) = 0
                at(0, 150, 129) = NONE
                """);
    }

    private static void theStackHasAllFloatingOnes() {
        runs.run("no TILED ones", "screen(0, 100, 100); open(1, 5, 5, -1) = 0; count(3) = 0; about(0, 6) = NONE");
        runs.run("from the lowest on", """
                screen(0, 100, 100); open(1, 5, 5, -1) = 0; open(2, 5, 5, -1) = 1; open(4, 5, 5, -1) = 2
                open(3, 5, 5, 0) = 3
                stack() = 1 2 3; about(0, 6) = NONE; about(1, 6) = 0; about(2, 6) = 1; about(3, 6) = 2
                close(1); stack() = 2 3; about(2, 6) = 0; open(2, 5, 5, -1) = 1; stack() = 2 3 1; count(3) = 3
                """);
        runs.run("on all SCREENS one STACK", """
                screen(0, 100, 100); screen(1, 100, 100); open(2, 5, 5, -1) = 0; gone(0); open(2, 5, 5, -1) = 1
                screen(0, 100, 100) = 1; area(0, 0) = 0; area(1, 0) = 1; stack() = 0 1; focus(0); stack() = 1 0
                """);
    }

    private static void raisedGoesToTheTop() {
        String three = "screen(0, 100, 100); open(2, 5, 5, -1) = 0; open(2, 5, 5, -1) = 1; open(4, 5, 5, -1) = 2\n";
        runs.run("the lowest", three + "focus(0); stack() = 1 2 0");
        runs.run("one in the middle", three + "focus(1); stack() = 0 2 1");
        runs.run("the highest", three + "focus(2); stack() = 0 1 2");
        runs.run("a STICKY one", three + "focus(0); focus(2); stack() = 1 0 2");
    }

    private static void raisedWithDialogsInTheOrderOfTheStack() {
        String desk = """
                screen(0, 100, 100); open(2, 5, 5, -1) = 0; open(3, 5, 5, 0) = 1; open(3, 5, 5, 0) = 2
                open(3, 5, 5, 0) = 3
                open(2, 5, 5, -1) = 4; stack() = 0 1 2 3 4
                """;
        runs.run("in the order of THE STACK", desk + "focus(0); stack() = 4 0 1 2 3");
        runs.run("not of the numbers", desk + "focus(1); focus(4); stack() = 0 2 3 1 4; focus(0); stack() = 4 0 2 3 1");
        runs.run("not of THE FOCUS ROW", desk + """
                focus(2); focus(3); focus(1); stack() = 0 4 2 3 1; focus(0); stack() = 4 0 2 3 1
                """);
        runs.run("an OWNER is not RAISED with its DIALOG", desk + """
                focus(1); stack() = 0 2 3 4 1; focusRow() = 1 4 3 2 0
                """);
    }

    private static void raisedOneByOneWithTheirOwn() {
        String desk = """
                screen(0, 100, 100); open(2, 5, 5, -1) = 0; open(3, 5, 5, 0) = 1; open(3, 5, 5, 0) = 2
                open(3, 5, 5, 1) = 3; open(3, 5, 5, 2) = 4; open(3, 5, 5, 3) = 5; open(4, 5, 5, -1) = 6
                stack() = 0 1 2 3 4 5 6
                """;
        runs.run("one by one: each with its own ahead of the next", desk + "focus(0); stack() = 6 0 1 3 5 2 4");
        runs.run("of a DIALOG its own alone", desk + "focus(1); stack() = 0 2 4 6 1 3 5");
        runs.run("and then of the OWNER all", desk + "focus(1); focus(0); stack() = 6 0 2 4 1 3 5");
        StringBuilder chain = new StringBuilder("screen(0, 100, 100); open(2, 5, 5, -1) = 0\n");
        for (int i = 1; i <= 9; i++) {
            chain.append("open(3, 5, 5, %d) = %d\n".formatted(i - 1, i));
        }
        runs.run("a chain of ten", chain + """
                focus(0); stack() = 0 1 2 3 4 5 6 7 8 9; focus(5); stack() = 0 1 2 3 4 5 6 7 8 9
                """);
        runs.run("of one without DIALOGS itself alone", desk + """
                focus(5); stack() = 0 1 2 3 4 6 5; focus(4); stack() = 0 1 2 3 6 5 4
                """);
    }

    private static void tiledOnesRaiseTheirDialogs() {
        String desk = """
                screen(0, 100, 100); open(1, 5, 5, -1) = 0; open(3, 5, 5, 0) = 1; open(3, 5, 5, 1) = 2
                open(3, 5, 5, 0) = 3
                open(2, 5, 5, -1) = 4; open(1, 5, 5, -1) = 5; stack() = 1 2 3 4
                """;
        runs.run("if it is FLOATING it goes to the top; then its DIALOGS", desk + """
                focus(0); stack() = 4 1 2 3; about(0, 6) = NONE; focusRow() = 0 5 4 3 2 1; focus(5); stack() = 4 1 2 3
                """);
        runs.run("toward() raises, too", desk + "toward(0) = 0; stack() = 4 1 2 3");
        runs.run("back() raises, too", desk + "focus(0); focus(4); stack() = 1 2 3 4; back() = 0; stack() = 4 1 2 3");
        runs.run("drag() raises, too", desk + "drag(0, 5, 3) = 0; stack() = 4 1 2 3");
        runs.run("move() does not", desk + "move(1, 1, 1) = 0; stack() = 1 2 3 4");
    }

    private static void dialogsAreAboveTheirOwners() {
        runs.run("(So DIALOGS are above their OWNERS.)", """
                screen(0, 100, 100); open(2, 50, 50, -1) = 0; open(3, 20, 20, 0) = 1; open(2, 60, 60, -1) = 2
                move(2, 0, 0)
                at(0, 25, 25) = 2; focus(0); at(0, 25, 25) = 1; at(0, 14, 14) = 0; at(0, 15, 15) = 1; at(0, 34, 34) = 1
                at(0, 35, 35) = 0; at(0, 50, 50) = 2; focus(1); at(0, 25, 25) = 1; focus(2); at(0, 25, 25) = 2
                """);
    }

    private static void atAPointTheHighestFloatingOne() {
        runs.run("the highest FLOATING one in THE STACK that lies there", """
                screen(0, 100, 100); open(1, 5, 5, -1) = 0; open(2, 40, 40, -1) = 1; open(2, 40, 40, -1) = 2
                open(4, 40, 40, -1) = 3
                at(0, 9, 9) = 0; at(0, 10, 10) = 1; at(0, 20, 20) = 2; at(0, 30, 30) = 3; at(0, 49, 49) = 3
                at(0, 29, 30) = 2
                focus(1); at(0, 49, 49) = 1; at(0, 50, 49) = 3; focus(2); at(0, 49, 49) = 2; at(0, 19, 49) = 1
                focus(0); at(0, 49, 49) = 2; at(0, 5, 5) = 0
                """);
        runs.run("of its SCREEN", """
                screen(0, 100, 100); screen(1, 100, 100); open(2, 40, 40, -1) = 0; gone(0); open(2, 30, 30, -1) = 1
                screen(0, 100, 100) = 1; at(0, 20, 20) = 0; at(1, 20, 20) = 1; at(1, 5, 5) = NONE; at(0, 5, 5) = 0
                """);
    }

    private static void atTheEdgesOfAFloatingOne() {
        runs.run("that lies there: its points and no others", """
                screen(0, 100, 100); open(2, 20, 30, -1) = 0; move(0, 40, 50)
                at(0, 40, 50) = 0; at(0, 39, 50) = NONE; at(0, 40, 49) = NONE
                at(0, 59, 50) = 0; at(0, 60, 50) = NONE; at(0, 59, 49) = NONE
                at(0, 40, 79) = 0; at(0, 39, 79) = NONE; at(0, 40, 80) = NONE
                at(0, 59, 79) = 0; at(0, 60, 79) = NONE; at(0, 59, 80) = NONE
                """);
        runs.run("one point", """
                screen(0, 100, 100); open(2, 1, 1, -1) = 0; move(0, 7, 8)
                at(0, 7, 8) = 0; at(0, 6, 8) = NONE; at(0, 8, 8) = NONE; at(0, 7, 7) = NONE; at(0, 7, 9) = NONE
                """);
    }

    private static void atAPointElseTheShownTab() {
        runs.run("else the SHOWN one of the LEAF whose AREA has the point", """
                screen(0, 100, 100); open(1, 5, 5, -1) = 0; open(1, 5, 5, -1) = 1; open(1, 5, 5, -1) = 2
                at(0, 0, 0) = 0; at(0, 49, 99) = 0; at(0, 50, 0) = 1; at(0, 99, 49) = 1; at(0, 50, 49) = 1
                at(0, 50, 50) = 2
                at(0, 99, 99) = 2; drag(0, 2, 4) = 0; at(0, 0, 49) = 1; at(0, 0, 50) = 0; focus(2); at(0, 0, 50) = 2
                """);
        runs.run("of this SCREEN", """
                screen(0, 100, 100); screen(1, 100, 100); open(1, 5, 5, -1) = 0; gone(0); open(1, 5, 5, -1) = 1
                screen(0, 100, 100) = 1; at(0, 20, 20) = 0; at(1, 20, 20) = 1
                """);
    }

    private static void atAPointElseNone() {
        runs.changesNothing("else NONE", """
                screen(0, 100, 100); screen(1, 100, 100); open(2, 5, 5, -1) = 0; open(1, 5, 5, -1) = 1; close(1)
                """,
                "at(0, 5, 5) = NONE; at(0, 99, 99) = NONE; at(1, 0, 0) = NONE; at(0, 4, 4) = 0");
    }

    private static void atThePointsThatAScreenHas() {
        String before = "screen(0, 100, 60); open(1, 5, 5, -1) = 0; open(2, 9, 9, -1) = 1\n";
        runs.changesNothing("a point that it has", before, """
                at(0, 0, 0) = 0; at(0, 99, 0) = 0; at(0, 0, 59) = 0; at(0, 99, 59) = 0
                """);
        runs.changesNothing("a point that it has not", before, """
                at(0, -1, 0) = BAD; at(0, 0, -1) = BAD; at(0, 100, 0) = BAD; at(0, 0, 60) = BAD
                at(0, 100, 60) = BAD; at(0, -1, -1) = BAD
                at(0, 2147483647, 0) = BAD; at(0, 0, 2147483647) = BAD; at(0, -2147483648, 0) = BAD
                at(0, 0, -2147483648) = BAD
                """);
        runs.changesNothing("NO: it is MISSING (asked ahead of the point)", before, """
                at(1, 0, 0) = NO; at(1, -1, 0) = NO; at(1, 0, -1) = NO; at(1, 400, 400) = NO; at(2, 5000, -5000) = NO
                """);
        runs.changesNothing("MISSING again", before + "screen(1, 100, 100); gone(0)", """
                at(0, 0, 0) = NO; at(0, -1, 0) = NO; at(0, 100, 60) = NO
                """);
        runs.changesNothing("no SCREEN, ahead of both", before, "at(3, -1, 0) = BAD; at(-1, 0, 0) = BAD");
        runs.run("with its size its points change", before + """
                screen(0, 101, 61); at(0, 100, 60) = 0; at(0, 101, 60) = BAD; at(0, 100, 61) = BAD
                screen(0, 99, 59); at(0, 98, 58) = 0; at(0, 99, 58) = BAD; at(0, 98, 59) = BAD
                """);
    }
}

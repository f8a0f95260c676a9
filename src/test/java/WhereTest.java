/** Promises 13 (area) to 20 (count). */
public final class WhereTest {
    private static final int BAD = Check.BAD, NO = Check.NO, NONE = Check.NONE;
    private static final Check check = new Check();

    public static void main(String[] args) {
        promise13Area();
        promise14About();
        promise15IsOf();
        promise16Floating();
        promise16Sticky();
        promise16Tiled();
        promise16Refused();
        promise17Neighbour();
        promise17OnePoint();
        promise17Refused();
        promise18Told();
        promise18Refused();
        promise19Tab();
        promise19Refused();
        promise20Count();
        questionsChangeNothing();
        check.end();
    }

    /** 0 and 1 tiled side by side, 2 floating, 3 a dialog of 1, 4 sticky. */
    private static WindowDesk five() {
        WindowDesk desk = new WindowDesk();
        desk.screen(1, 200, 100);
        desk.open(1, 20, 25, -1);
        desk.open(1, 30, 35, -1);
        desk.open(2, 50, 40, -1);
        desk.open(3, 12, 14, 1);
        desk.open(4, 60, 70, -1);
        return desk;
    }

    private static void promise13Area() {
        WindowDesk desk = five();
        check.row("tiled", Check.area(desk, 0), 1, 0, 0, 100, 100);
        check.row("tiled", Check.area(desk, 1), 1, 100, 0, 100, 100);
        check.row("floating", Check.area(desk, 2), 1, 20, 20, 50, 40);
        check.row("dialog", Check.area(desk, 3), 1, 144, 43, 12, 14);
        check.row("sticky", Check.area(desk, 4), NONE, 40, 40, 60, 70);
        check.due("what 5", desk.area(0, 5), BAD);
        check.due("what -1", desk.area(0, -1), BAD);
        check.due("no such window", desk.area(5, 0), BAD);
        check.due("-1", desk.area(-1, 0), BAD);
        check.due("10", desk.area(10, 0), BAD);
        desk.drag(0, 1, 4);
        check.row("a hidden tab", Check.area(desk, 1), 1, 0, 0, 200, 100);
    }

    private static void promise14About() {
        WindowDesk desk = five();
        int[][] due = {
            {1, 20, 25, NONE, 1, 4, NONE},
            {1, 30, 35, NONE, 1, 3, NONE},
            {2, 50, 40, NONE, 1, 2, 0},
            {3, 12, 14, 1, 1, 1, 1},
            {4, 60, 70, NONE, 1, 0, 2}};
        for (int window = 0; window < 5; window++) {
            for (int what = 0; what < 7; what++) {
                check.due("about(" + window + ", " + what + ")", desk.about(window, what), due[window][what]);
            }
        }
        desk.drag(1, 0, 4);
        check.due("hidden", desk.about(0, 4), 0);
        check.due("shown", desk.about(1, 4), 1);
        check.due("what 7", desk.about(0, 7), BAD);
        check.due("what -1", desk.about(0, -1), BAD);
        check.due("no such window", desk.about(5, 0), BAD);
        check.due("-1", desk.about(-1, 0), BAD);
        check.due("10", desk.about(10, 0), BAD);
    }

    private static void promise15IsOf() {
        WindowDesk desk = five();
        int[][] due = {{1, 1, 0, 0, 0}, {1, 1, 0, 0, 0}, {1, 0, 1, 0, 0}, {1, 0, 1, 1, 0}, {1, 0, 1, 0, 1}};
        for (int window = 0; window < 5; window++) {
            for (int kind = 0; kind < 5; kind++) {
                check.due("isOf(" + window + ", " + kind + ")", desk.isOf(window, kind), due[window][kind]);
            }
        }
        check.due("kind 5", desk.isOf(0, 5), BAD);
        check.due("kind -1", desk.isOf(0, -1), BAD);
        check.due("no such window", desk.isOf(5, 0), BAD);
        check.due("-1", desk.isOf(-1, 0), BAD);
        check.due("10", desk.isOf(10, 0), BAD);
    }

    private static void promise16Floating() {
        WindowDesk desk = new WindowDesk();
        desk.screen(0, 100, 100);
        desk.screen(1, 100, 100);
        desk.open(2, 10, 20, -1);
        desk.open(2, 10, 20, -1);
        desk.move(0, 30, 40);
        desk.move(1, 35, 50);
        check.due("the first point", desk.at(0, 30, 40), 0);
        check.due("left of it", desk.at(0, 29, 40), NONE);
        check.due("above it", desk.at(0, 30, 39), NONE);
        check.due("the last point across", desk.at(0, 39, 40), 0);
        check.due("right of it", desk.at(0, 40, 40), NONE);
        check.due("the last point down", desk.at(0, 30, 59), 0);
        check.due("below it", desk.at(0, 30, 60), NONE);
        check.due("the higher one", desk.at(0, 35, 50), 1);
        desk.focus(0);
        check.due("the other is higher", desk.at(0, 35, 50), 0);
        check.due("not on another screen", desk.at(1, 35, 50), NONE);
    }

    private static void promise16Sticky() {
        WindowDesk desk = new WindowDesk();
        desk.screen(0, 100, 50);
        desk.screen(1, 60, 50);
        desk.screen(2, 59, 400);
        desk.open(4, 60, 50, -1);
        desk.move(0, 70, 300);
        check.due("the nearest place", desk.at(0, 40, 0), 0);
        check.due("left of it", desk.at(0, 39, 0), NONE);
        check.due("the last point", desk.at(0, 99, 49), 0);
        check.due("just as large", desk.at(1, 0, 0), 0);
        check.due("just as large, the last point", desk.at(1, 59, 49), 0);
        check.due("too narrow a screen", desk.at(2, 30, 320), NONE);
        desk.screen(2, 400, 49);
        check.due("too low a screen", desk.at(2, 80, 40), NONE);
        desk.screen(2, 400, 400);
        check.due("at its place", desk.at(2, 70, 300), 0);
        check.due("ahead of it", desk.at(2, 69, 300), NONE);
        check.due("its last point", desk.at(2, 129, 349), 0);
        desk.open(2, 60, 50, -1);
        check.due("a floating one above it", desk.at(0, 45, 0), 1);
        desk.focus(0);
        check.due("above the floating one", desk.at(0, 45, 0), 0);
    }

    private static void promise16Tiled() {
        WindowDesk desk = new WindowDesk();
        desk.screen(0, 100, 100);
        desk.open(1, 10, 10, -1);
        desk.open(1, 10, 10, -1);
        desk.open(1, 10, 10, -1);
        check.due("the last of 0", desk.at(0, 49, 99), 0);
        check.due("the first of 1", desk.at(0, 50, 0), 1);
        check.due("the last of 1", desk.at(0, 99, 49), 1);
        check.due("the first of 2", desk.at(0, 50, 50), 2);
        check.due("the last of 2", desk.at(0, 99, 99), 2);
        desk.drag(0, 1, 4);
        check.due("the shown one", desk.at(0, 0, 0), 0);
        desk.focus(1);
        check.due("the other is shown", desk.at(0, 0, 0), 1);
        desk.open(2, 10, 10, -1);
        desk.move(3, 0, 0);
        check.due("a floating one is above", desk.at(0, 0, 0), 3);
        desk.focus(1);
        check.due("even if a tiled one has focus", desk.at(0, 9, 9), 3);
    }

    private static void promise16Refused() {
        WindowDesk desk = new WindowDesk();
        check.due("screen 3", desk.at(3, 0, 0), BAD);
        check.due("screen -1", desk.at(-1, 0, 0), BAD);
        check.due("missing", desk.at(0, 0, 0), NO);
        check.due("missing is asked ahead of the point", desk.at(0, -1, 5000), NO);
        desk.screen(0, 100, 60);
        check.due("x -1", desk.at(0, -1, 0), BAD);
        check.due("y -1", desk.at(0, 0, -1), BAD);
        check.due("x 100", desk.at(0, 100, 0), BAD);
        check.due("y 60", desk.at(0, 0, 60), BAD);
        check.due("the last point", desk.at(0, 99, 59), NONE);
        check.due("the greatest ints", desk.at(0, Integer.MAX_VALUE, Integer.MAX_VALUE), BAD);
    }

    /** 0 on the left, 1 / 2 / 3 on the right with heights 50, 25 and 25. */
    private static void promise17Neighbour() {
        WindowDesk desk = new WindowDesk();
        desk.screen(0, 100, 100);
        desk.open(1, 10, 10, -1);
        desk.open(1, 10, 10, -1);
        desk.open(1, 10, 10, -1);
        desk.drag(2, 1, 3);
        desk.open(1, 10, 10, -1);
        desk.drag(3, 2, 3);
        check.due("right of 0", desk.neighbour(0, 1), 1);
        check.due("left of 1", desk.neighbour(1, 0), 0);
        check.due("left of 2", desk.neighbour(2, 0), 0);
        check.due("left of 3", desk.neighbour(3, 0), 0);
        check.due("below 1", desk.neighbour(1, 3), 2);
        check.due("below 2", desk.neighbour(2, 3), 3);
        check.due("below 3", desk.neighbour(3, 3), NONE);
        check.due("above 3", desk.neighbour(3, 2), 2);
        check.due("above 1", desk.neighbour(1, 2), NONE);
        check.due("right of 1", desk.neighbour(1, 1), NONE);
        check.due("left of 0", desk.neighbour(0, 0), NONE);
        desk.share(1, 1, 20);
        check.due("20, 40, 40: the least number of two", desk.neighbour(0, 1), 2);
        desk.share(2, 1, 45);
        check.due("20, 36, 44", desk.neighbour(0, 1), 3);
        check.due("focus stays", desk.count(4), 3);
        desk.drag(0, 3, 4);
        check.due("of a leaf the shown one", desk.neighbour(2, 3), 0);
        desk.open(1, 10, 10, -1);
        desk.drag(4, 1, 0);
        check.due("a corner is no border", desk.neighbour(4, 1), 1);
        check.due("above a wide one: as much, the least number", desk.neighbour(2, 2), 1);
    }

    private static void promise17OnePoint() {
        WindowDesk desk = new WindowDesk();
        desk.screen(0, 40, 40);
        for (int i = 0; i < 10; i++) {
            desk.open(1, 1, 1, -1);
        }
        // Each is cut in two, the lesser part first: widths 20, 10, 5, 2 (and 3), 1 (and 2).
        check.row("one point wide", Check.area(desk, 8), 0, 37, 37, 1, 3);
        check.due("above it, with one point", desk.neighbour(8, 2), 7);
        check.due("beside it", desk.neighbour(8, 1), 9);
        WindowDesk corner = new WindowDesk();
        corner.screen(0, 100, 100);
        for (int i = 0; i < 3; i++) {
            corner.open(1, 10, 10, -1);
        }
        corner.open(1, 10, 10, -1);
        corner.drag(3, 0, 3);
        // 0 / 3 on the left, 1 / 2 on the right, all of one size.
        check.due("no part of 2", corner.neighbour(0, 1), 1);
        corner.share(0, 1, 51);
        check.due("more of 1 than the point of 2", corner.neighbour(0, 1), 1);
        corner.share(1, 1, 10);
        check.due("more of 2", corner.neighbour(0, 1), 2);
        check.due("left of 1 is 0 alone", corner.neighbour(1, 0), 0);
    }

    private static void promise17Refused() {
        WindowDesk desk = five();
        check.due("side 4", desk.neighbour(0, 4), BAD);
        check.due("side -1", desk.neighbour(0, -1), BAD);
        check.due("no such window", desk.neighbour(5, 0), BAD);
        check.due("-1", desk.neighbour(-1, 0), BAD);
        check.due("10", desk.neighbour(10, 0), BAD);
        check.due("BAD ahead of NO", desk.neighbour(2, 4), BAD);
        check.due("a floating one", desk.neighbour(2, 0), NO);
        check.due("a sticky one", desk.neighbour(4, 0), NO);
        desk.drag(0, 1, 4);
        check.due("a hidden one", desk.neighbour(1, 0), NO);
        check.due("a shown one", desk.neighbour(0, 0), NONE);
    }

    private static void promise18Told() {
        WindowDesk desk = five();
        int[] due = {200, 100, 2, 1, 50, 35, 2};
        for (int what = 0; what < 7; what++) {
            check.due("told(1, " + what + ")", desk.told(1, what), due[what]);
        }
        desk.drag(0, 1, 3);
        check.due("down: the greater width", desk.told(1, 4), 30);
        check.due("down: both heights", desk.told(1, 5), 60);
        desk.drag(0, 1, 4);
        check.due("tabs: the greater width", desk.told(1, 4), 30);
        check.due("tabs: the greater height", desk.told(1, 5), 35);
        check.due("one leaf", desk.told(1, 2), 1);
        check.due("no cut", desk.told(1, 3), 0);
        desk.screen(0, 77, 88);
        int[] empty = {77, 88, 0, 0, 0, 0, 0};
        for (int what = 0; what < 7; what++) {
            check.due("told(0, " + what + ")", desk.told(0, what), empty[what]);
        }
    }

    private static void promise18Refused() {
        WindowDesk desk = five();
        check.due("screen 3", desk.told(3, 0), BAD);
        check.due("screen -1", desk.told(-1, 0), BAD);
        check.due("what 7", desk.told(1, 7), BAD);
        check.due("what -1", desk.told(1, -1), BAD);
        check.due("missing", desk.told(0, 0), NO);
        check.due("BAD ahead of NO", desk.told(0, 7), BAD);
    }

    private static void promise19Tab() {
        WindowDesk desk = five();
        check.row("leaf 0", Check.leaf(desk, 1, 0), 0, 0);
        check.row("leaf 1", Check.leaf(desk, 1, 1), 1, 1);
        check.due("no leaf 2: how many", desk.tab(1, 2, -1), NONE);
        check.due("no leaf 2: shown", desk.tab(1, 2, -2), NONE);
        check.due("no leaf 2: tab", desk.tab(1, 2, 0), NONE);
        check.due("no tab 1", desk.tab(1, 0, 1), NONE);
        check.due("the greatest ints", desk.tab(1, Integer.MAX_VALUE, Integer.MAX_VALUE), NONE);
        desk.drag(0, 1, 4);
        check.due("how many", desk.tab(1, 0, -1), 2);
        check.due("shown", desk.tab(1, 0, -2), 0);
        check.due("tab 0", desk.tab(1, 0, 0), 1);
        check.due("tab 1", desk.tab(1, 0, 1), 0);
        check.due("no tab 2", desk.tab(1, 0, 2), NONE);
        check.due("no leaf 1", desk.tab(1, 1, -1), NONE);
        desk.screen(2, 100, 100);
        check.due("an empty tree", desk.tab(2, 0, -1), NONE);
    }

    private static void promise19Refused() {
        WindowDesk desk = five();
        check.due("screen 3", desk.tab(3, 0, 0), BAD);
        check.due("screen -1", desk.tab(-1, 0, 0), BAD);
        check.due("leaf -1", desk.tab(1, -1, 0), BAD);
        check.due("tab -3", desk.tab(1, 0, -3), BAD);
        check.due("tab -3 of no leaf", desk.tab(1, 9, -3), BAD);
        check.due("missing", desk.tab(0, 0, 0), NO);
        check.due("BAD ahead of NO", desk.tab(0, -1, 0), BAD);
    }

    private static void promise20Count() {
        WindowDesk desk = five();
        int[] due = {1, 5, 2, 3, 4, 0};
        for (int what = 0; what < 6; what++) {
            check.due("count(" + what + ")", desk.count(what), due[what]);
        }
        desk.screen(0, 200, 100);
        desk.screen(2, 200, 100);
        check.due("screens", desk.count(0), 3);
        desk.gone(1);
        desk.gone(0);
        check.due("screens", desk.count(0), 1);
        check.due("kept with two", desk.count(5), 2);
        check.due("what 6", desk.count(6), BAD);
        check.due("what -1", desk.count(-1), BAD);
        check.due("the least int", desk.count(Integer.MIN_VALUE), BAD);
    }

    private static void questionsChangeNothing() {
        WindowDesk desk = five();
        int[] row = Check.focusRow(desk);
        int[] stack = Check.stack(desk);
        for (int i = 0; i < 6; i++) {
            desk.at(1, 30, 30);
            desk.neighbour(0, 1);
            desk.steps(0, 1);
            desk.tab(1, 0, 0);
        }
        check.row("the row", Check.focusRow(desk), row);
        check.row("the stack", Check.stack(desk), stack);
    }
}

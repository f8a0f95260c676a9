/** Promises 4 (open) and 5 (close). */
public final class OpeningTest {
    private static final int BAD = Check.BAD, NO = Check.NO, FULL = Check.FULL, NONE = Check.NONE;
    private static final Check check = new Check();

    public static void main(String[] args) {
        promise4BadArguments();
        promise4Owner();
        promise4NoScreen();
        promise4Full();
        promise4RefusedInOrder();
        promise4LeastFreeNumber();
        promise4CutByArea();
        promise4CutTheOtherWay();
        promise4LastTab();
        promise4NoWay();
        promise4LeafOfTheFirstInTheFocusRow();
        promise4ScreenAtHand();
        promise4FloatingPut();
        promise4Sticky();
        promise4DialogPut();
        promise4Focused();
        promise5Bad();
        promise5DialogsToo();
        promise5ShownTab();
        promise5TreeCloses();
        promise5FocusGoesToTheNext();
        promise5AndOpenedAgain();
        check.end();
    }

    private static WindowDesk desk(int w, int h) {
        WindowDesk desk = new WindowDesk();
        desk.screen(0, w, h);
        return desk;
    }

    private static void promise4BadArguments() {
        WindowDesk desk = desk(200, 200);
        check.due("kind 0", desk.open(0, 10, 10, -1), BAD);
        check.due("kind 5", desk.open(5, 10, 10, -1), BAD);
        check.due("kind -1", desk.open(-1, 10, 10, -1), BAD);
        check.due("width 0", desk.open(1, 0, 10, -1), BAD);
        check.due("width 201", desk.open(2, 201, 10, -1), BAD);
        check.due("height 0", desk.open(4, 10, 0, -1), BAD);
        check.due("height 201", desk.open(1, 10, 201, -1), BAD);
        check.due("the least int", desk.open(1, Integer.MIN_VALUE, 10, -1), BAD);
        check.due("the greatest int", desk.open(1, 10, Integer.MAX_VALUE, -1), BAD);
        check.due("none is open", desk.count(1), 0);
        check.due("1 x 200", desk.open(1, 1, 200, -1), 0);
        check.due("200 x 1", desk.open(2, 200, 1, -1), 1);
    }

    private static void promise4Owner() {
        WindowDesk desk = desk(200, 200);
        check.due("a tiled one with an owner", desk.open(1, 10, 10, 0), BAD);
        desk.open(1, 10, 10, -1);
        check.due("a tiled one with an owner that is", desk.open(1, 10, 10, 0), BAD);
        check.due("a floating one with an owner", desk.open(2, 10, 10, 0), BAD);
        check.due("a sticky one with an owner", desk.open(4, 10, 10, 0), BAD);
        check.due("owner -2 is not -1", desk.open(2, 10, 10, -2), BAD);
        check.due("a dialog without an owner", desk.open(3, 10, 10, -1), BAD);
        check.due("a dialog of none", desk.open(3, 10, 10, 1), BAD);
        check.due("a dialog of 10", desk.open(3, 10, 10, 10), BAD);
        check.due("a dialog of the tiled one", desk.open(3, 10, 10, 0), 1);
        check.due("a dialog of the dialog", desk.open(3, 10, 10, 1), 2);
        check.due("a sticky one", desk.open(4, 10, 10, -1), 3);
        check.due("a dialog of the sticky one", desk.open(3, 10, 10, 3), NO);
        check.due("its owner", desk.about(2, 3), 1);
        check.due("owner 0", desk.about(1, 3), 0);
        check.due("it has none", desk.about(0, 3), NONE);
    }

    private static void promise4NoScreen() {
        for (int kind = 1; kind <= 4; kind++) {
            WindowDesk desk = new WindowDesk();
            check.due("no screen, kind " + kind, desk.open(kind, 10, 10, -1), kind == 3 ? BAD : NO);
            check.due("none is open", desk.count(1), 0);
        }
    }

    private static WindowDesk full() {
        WindowDesk desk = desk(100, 100);
        for (int i = 0; i < 10; i++) {
            check.due("window " + i, desk.open(i == 0 ? 4 : 2, 10, 10, -1), i);
        }
        return desk;
    }

    private static void promise4Full() {
        WindowDesk desk = full();
        check.due("an eleventh", desk.open(2, 10, 10, -1), FULL);
        check.due("tiled", desk.open(1, 10, 10, -1), FULL);
        check.due("ten", desk.count(1), 10);
        check.due("focus stays", desk.count(4), 9);
    }

    private static void promise4RefusedInOrder() {
        WindowDesk desk = full();
        check.due("BAD ahead of FULL", desk.open(2, 0, 10, -1), BAD);
        check.due("FULL ahead of NO: sticky owner", desk.open(3, 10, 10, 0), FULL);
        check.due("FULL ahead of NO: too large", desk.open(2, 150, 10, -1), FULL);
    }

    private static void promise4LeastFreeNumber() {
        WindowDesk desk = full();
        desk.close(7);
        desk.close(3);
        check.due("the least free one", desk.open(2, 10, 10, -1), 3);
        check.due("the next", desk.open(2, 10, 10, -1), 7);
        check.due("no more", desk.open(2, 10, 10, -1), FULL);
    }

    private static void promise4CutByArea() {
        WindowDesk desk = desk(100, 100);
        check.due("the only leaf", desk.open(1, 10, 10, -1), 0);
        check.row("all of it", Check.area(desk, 0), 0, 0, 0, 100, 100);
        check.due("as wide as high: across", desk.open(1, 10, 10, -1), 1);
        check.row("left", Check.area(desk, 0), 0, 0, 0, 50, 100);
        check.row("right", Check.area(desk, 1), 0, 50, 0, 50, 100);
        check.due("higher than wide: down", desk.open(1, 10, 10, -1), 2);
        check.row("upper", Check.area(desk, 1), 0, 50, 0, 50, 50);
        check.row("lower", Check.area(desk, 2), 0, 50, 50, 50, 50);
        check.due("across again", desk.open(1, 10, 10, -1), 3);
        check.row("left of these", Check.area(desk, 2), 0, 50, 50, 25, 50);
        check.row("right of these", Check.area(desk, 3), 0, 75, 50, 25, 50);
        check.due("leaves", desk.told(0, 2), 4);
        check.due("cuts", desk.told(0, 3), 3);
        desk.screen(0, 101, 99);
        check.row("what is left over goes to the second", Check.area(desk, 1), 0, 50, 0, 51, 49);
        check.row("below, too", Check.area(desk, 2), 0, 50, 49, 25, 50);
        check.row("and beside", Check.area(desk, 3), 0, 75, 49, 26, 50);
    }

    private static void promise4CutTheOtherWay() {
        WindowDesk desk = desk(100, 80);
        desk.open(1, 60, 30, -1);
        check.due("across would be 101 wide", desk.open(1, 41, 30, -1), 1);
        check.row("upper", Check.area(desk, 0), 0, 0, 0, 100, 40);
        check.row("lower", Check.area(desk, 1), 0, 0, 40, 100, 40);
        WindowDesk high = desk(80, 100);
        high.open(1, 30, 60, -1);
        check.due("down would be 101 high", high.open(1, 30, 41, -1), 1);
        check.row("left", Check.area(high, 0), 0, 0, 0, 40, 100);
        check.row("right", Check.area(high, 1), 0, 40, 0, 40, 100);
        WindowDesk just = desk(100, 80);
        just.open(1, 60, 30, -1);
        check.due("across is just 100 wide", just.open(1, 40, 30, -1), 1);
        check.row("the first keeps its least", Check.area(just, 0), 0, 0, 0, 60, 80);
        check.row("the second has the rest", Check.area(just, 1), 0, 60, 0, 40, 80);
    }

    private static void promise4LastTab() {
        WindowDesk desk = desk(100, 80);
        desk.open(1, 60, 50, -1);
        check.due("a tab", desk.open(1, 50, 60, -1), 1);
        check.row("one leaf, the new one shown", Check.leaf(desk, 0, 0), 1, 0, 1);
        check.due("least width", desk.told(0, 4), 60);
        check.due("least height", desk.told(0, 5), 60);
        check.row("the area of both", Check.area(desk, 0), 0, 0, 0, 100, 80);
        desk.focus(0);
        check.due("one more", desk.open(1, 100, 80, -1), 2);
        check.row("the last tab", Check.leaf(desk, 0, 0), 2, 0, 1, 2);
    }

    private static void promise4NoWay() {
        WindowDesk desk = desk(100, 80);
        check.due("too wide alone", desk.open(1, 101, 10, -1), NO);
        check.due("too high alone", desk.open(1, 10, 81, -1), NO);
        check.due("empty as before", desk.told(0, 2), 0);
        desk.open(1, 60, 50, -1);
        check.due("too wide in any way", desk.open(1, 101, 10, -1), NO);
        check.due("too high in any way", desk.open(1, 10, 81, -1), NO);
        check.due("one window", desk.count(1), 1);
        check.row("one tab", Check.leaf(desk, 0, 0), 0, 0);
        check.due("the next has the number", desk.open(1, 30, 30, -1), 1);
    }

    private static void promise4LeafOfTheFirstInTheFocusRow() {
        WindowDesk desk = desk(200, 100);
        desk.open(1, 10, 10, -1);
        desk.open(1, 10, 10, -1);
        desk.open(2, 10, 10, -1);
        desk.focus(0);
        desk.focus(2);
        check.due("beside 0, behind a floating one in the row", desk.open(1, 10, 10, -1), 3);
        check.row("0", Check.area(desk, 0), 0, 0, 0, 50, 100);
        check.row("3", Check.area(desk, 3), 0, 50, 0, 50, 100);
        check.row("1", Check.area(desk, 1), 0, 100, 0, 100, 100);
    }

    private static void promise4ScreenAtHand() {
        WindowDesk desk = new WindowDesk();
        desk.screen(2, 100, 100);
        check.due("a sticky one", desk.open(4, 10, 10, -1), 0);
        desk.screen(1, 100, 100);
        check.due("no other windows", desk.open(2, 10, 10, -1), 1);
        check.due("the least screen", desk.area(1, 0), 1);
        desk.screen(0, 100, 100);
        check.due("that of the first", desk.open(1, 10, 10, -1), 2);
        check.due("screen 1", desk.area(2, 0), 1);
        desk.focus(0);
        check.due("sticky ones do not count", desk.open(1, 10, 10, -1), 3);
        check.due("screen 1 again", desk.area(3, 0), 1);
        desk.gone(1);
        check.due("all are on screen 0", desk.area(3, 0), 0);
        desk.screen(1, 100, 100);
        check.due("and back", desk.area(3, 0), 1);
        desk.close(1);
        desk.close(2);
        desk.close(3);
        check.due("only the sticky one is left", desk.open(2, 10, 10, -1), 1);
        check.due("the least screen again", desk.area(1, 0), 0);
    }

    private static void promise4FloatingPut() {
        WindowDesk desk = desk(100, 60);
        for (int i = 0; i < 8; i++) {
            desk.open(2, 20, 10, -1);
        }
        check.row("number 0", Check.area(desk, 0), 0, 0, 0, 20, 10);
        check.row("number 3", Check.area(desk, 3), 0, 30, 30, 20, 10);
        check.row("number 6 is put", Check.area(desk, 6), 0, 60, 50, 20, 10);
        check.due("too wide", desk.open(2, 101, 10, -1), NO);
        check.due("too high", desk.open(2, 10, 61, -1), NO);
        check.due("as large as the screen", desk.open(2, 100, 60, -1), 8);
        check.row("put", Check.area(desk, 8), 0, 0, 0, 100, 60);
        check.due("a dialog too wide", desk.open(3, 101, 10, 0), NO);
        check.due("a dialog too high", desk.open(3, 10, 61, 0), NO);
    }

    private static void promise4Sticky() {
        WindowDesk desk = desk(40, 40);
        desk.open(2, 10, 10, -1);
        check.due("larger than any screen", desk.open(4, 200, 200, -1), 1);
        check.row("its place", Check.area(desk, 1), NONE, 10, 10, 200, 200);
        check.due("it has focus", desk.count(4), 1);
    }

    private static void promise4DialogPut() {
        WindowDesk desk = desk(200, 100);
        desk.open(1, 10, 10, -1);
        desk.open(1, 10, 10, -1);
        check.due("of a tiled one", desk.open(3, 31, 20, 1), 2);
        check.row("in the middle of its area", Check.area(desk, 2), 0, 134, 40, 31, 20);
        check.due("larger than its owner by an odd number", desk.open(3, 34, 25, 2), 3);
        check.row("half of -3 is -2, of -5 is -3", Check.area(desk, 3), 0, 132, 37, 34, 25);
        check.due("wider than the owner's side", desk.open(3, 150, 90, 1), 4);
        check.row("put at the edge", Check.area(desk, 4), 0, 50, 5, 150, 90);
        desk.screen(1, 100, 100);
        desk.drag(0, 1, 4);
        check.due("of one that is not shown", desk.about(1, 4), 0);
        check.due("its dialog", desk.open(3, 100, 50, 1), 5);
        check.row("by its leaf's area", Check.area(desk, 5), 0, 50, 25, 100, 50);
    }

    private static void promise4Focused() {
        WindowDesk desk = desk(200, 100);
        desk.open(1, 10, 10, -1);
        desk.open(2, 10, 10, -1);
        desk.open(3, 10, 10, 0);
        check.row("the newest first", Check.focusRow(desk), 2, 1, 0);
        check.row("the newest on top", Check.stack(desk), 1, 2);
    }

    private static void promise5Bad() {
        WindowDesk desk = desk(100, 100);
        check.due("close(0)", desk.close(0), BAD);
        desk.open(2, 10, 10, -1);
        check.due("close(-1)", desk.close(-1), BAD);
        check.due("close(10)", desk.close(10), BAD);
        check.due("close(1)", desk.close(1), BAD);
        check.due("close of the least int", desk.close(Integer.MIN_VALUE), BAD);
        check.due("close(0)", desk.close(0), 1);
        check.due("closed already", desk.close(0), BAD);
        check.due("asked about", desk.about(0, 0), BAD);
    }

    private static void promise5DialogsToo() {
        WindowDesk desk = desk(200, 200);
        for (int i = 0; i < 6; i++) {
            desk.open(2, 10, 10, -1);
        }
        desk.close(1);
        desk.close(2);
        check.due("a dialog of a greater number", desk.open(3, 10, 10, 5), 1);
        check.due("a dialog of that", desk.open(3, 10, 10, 1), 2);
        check.due("a dialog of that again", desk.open(3, 10, 10, 2), 6);
        check.due("another one of 5", desk.open(3, 10, 10, 5), 7);
        check.due("one of another", desk.open(3, 10, 10, 4), 8);
        check.due("all of 2 on", desk.close(2), 2);
        check.due("6 is no more", desk.about(6, 0), BAD);
        check.due("all of 5", desk.close(5), 3);
        check.row("the others are there", Check.focusRow(desk), 8, 4, 3, 0);
        check.row("and in the stack", Check.stack(desk), 0, 3, 4, 8);
        check.due("the least number is free", desk.open(1, 10, 10, -1), 1);
        check.due("it is not a dialog", desk.about(1, 3), NONE);
        check.due("closed alone", desk.close(1), 1);
        desk.close(0);
        check.due("a dialog with number 0", desk.open(3, 10, 10, 3), 0);
        check.due("closed with its owner", desk.close(3), 2);
    }

    private static WindowDesk fourTabs(int shown) {
        WindowDesk desk = desk(60, 60);
        for (int i = 0; i < 4; i++) {
            desk.open(1, 40, 40, -1);
        }
        desk.focus(shown);
        return desk;
    }

    private static void promise5ShownTab() {
        WindowDesk first = fourTabs(0);
        first.close(0);
        check.row("the one behind the first", Check.leaf(first, 0, 0), 1, 1, 2, 3);
        WindowDesk middle = fourTabs(1);
        middle.close(1);
        check.row("the one behind", Check.leaf(middle, 0, 0), 2, 0, 2, 3);
        WindowDesk last = fourTabs(3);
        last.close(3);
        check.row("the last one", Check.leaf(last, 0, 0), 2, 0, 1, 2);
        WindowDesk other = fourTabs(1);
        other.close(2);
        check.row("the shown one stays", Check.leaf(other, 0, 0), 1, 0, 1, 3);
        check.due("focus does not show", fourTabs(3).close(3), 1);
    }

    private static void promise5TreeCloses() {
        WindowDesk desk = desk(100, 100);
        desk.open(1, 10, 10, -1);
        desk.open(1, 10, 10, -1);
        desk.open(1, 10, 10, -1);
        desk.share(2, 1, 80);
        desk.share(0, 0, 30);
        check.due("the left one", desk.close(0), 1);
        check.row("upper", Check.area(desk, 1), 0, 0, 0, 100, 80);
        check.row("lower", Check.area(desk, 2), 0, 0, 80, 100, 20);
        check.due("one cut", desk.told(0, 3), 1);
        check.due("the upper one", desk.close(1), 1);
        check.row("all", Check.area(desk, 2), 0, 0, 0, 100, 100);
        check.due("the last one", desk.close(2), 1);
        check.due("no leaf", desk.told(0, 2), 0);
        check.due("no least width", desk.told(0, 4), 0);
        check.due("a new one", desk.open(1, 100, 100, -1), 0);
    }

    /** Trees of ten leaves that come and go, so that no place for a leaf or a cut is lost. */
    private static void promise5AndOpenedAgain() {
        WindowDesk desk = desk(400, 400);
        for (int i = 0; i < 10; i++) {
            desk.open(1, 1, 1, -1);
        }
        check.due("ten leaves", desk.told(0, 2), 10);
        check.due("nine cuts", desk.told(0, 3), 9);
        check.row("the last", Check.area(desk, 9), 0, 387, 375, 13, 25);
        for (int i = 0; i < 40; i++) {
            int window = i * 7 % 10;
            check.due("closed", desk.close(window), 1);
            check.due("nine leaves", desk.told(0, 2), 9);
            check.due("opened", desk.open(1, 1, 1, -1), window);
            check.due("ten leaves", desk.told(0, 2), 10);
            check.due("nine cuts", desk.told(0, 3), 9);
        }
        check.due("the areas fill the screen", points(desk), 400 * 400);
        for (int i = 0; i < 10; i++) {
            desk.close(i);
        }
        check.due("no leaf", desk.told(0, 2), 0);
    }

    private static int points(WindowDesk desk) {
        int points = 0;
        for (int i = 0; i < 10; i++) {
            points += desk.area(i, 3) * desk.area(i, 4);
        }
        return points;
    }

    private static void promise5FocusGoesToTheNext() {
        WindowDesk desk = fourTabs(1);
        desk.open(2, 10, 10, -1);
        desk.open(2, 10, 10, -1);
        desk.focus(4);
        desk.focus(1);
        desk.focus(2);
        desk.close(2);
        check.due("the one before has focus", desk.count(4), 1);
        check.due("but is not shown", desk.about(1, 4), 0);
        check.row("the one behind is", Check.leaf(desk, 0, 0), 3, 0, 1, 3);
        desk.close(1);
        check.due("a floating one has focus", desk.count(4), 4);
        check.row("but is not raised", Check.stack(desk), 5, 4);
    }
}

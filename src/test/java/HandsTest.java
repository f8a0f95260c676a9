/** Promises 10 (drag), 11 (move) and 12 (share). */
public final class HandsTest {
    private static final int BAD = Check.BAD, NO = Check.NO, NONE = Check.NONE;
    private static final Check check = new Check();

    public static void main(String[] args) {
        promise10Sides();
        promise10AsTab();
        promise10OutOfItsOwnLeaf();
        promise10KeepsItsLeastSize();
        promise10Refused();
        promise10RefusedChangesNothing();
        promise10FitsOnceItHasLeft();
        promise10Focused();
        promise10ToAnotherScreen();
        promise10DialogTooLargeThere();
        promise11Put();
        promise11Sticky();
        promise11NotFocused();
        promise11Refused();
        promise12NearestCut();
        promise12AfterClosing();
        promise12LeastSizesKept();
        promise12Refused();
        check.end();
    }

    private static WindowDesk three() {
        WindowDesk desk = new WindowDesk();
        desk.screen(0, 120, 100);
        desk.open(1, 10, 10, -1);
        desk.open(1, 10, 10, -1);
        desk.open(1, 10, 10, -1);
        return desk;
    }

    private static void promise10Sides() {
        WindowDesk left = three();
        left.share(0, 0, 70);
        check.due("to the left", left.drag(2, 0, 0), 0);
        check.row("it", Check.area(left, 2), 0, 0, 0, 42, 100);
        check.row("the other", Check.area(left, 0), 0, 42, 0, 42, 100);
        check.row("the third", Check.area(left, 1), 0, 84, 0, 36, 100);
        check.due("with share 50", left.share(2, 0, 60), 50);
        WindowDesk right = three();
        check.due("to the right", right.drag(2, 0, 1), 0);
        check.row("it", Check.area(right, 2), 0, 30, 0, 30, 100);
        check.row("the other", Check.area(right, 0), 0, 0, 0, 30, 100);
        WindowDesk above = three();
        check.due("above", above.drag(2, 0, 2), 0);
        check.row("it", Check.area(above, 2), 0, 0, 0, 60, 50);
        check.row("the other", Check.area(above, 0), 0, 0, 50, 60, 50);
        WindowDesk below = three();
        check.due("below", below.drag(2, 0, 3), 0);
        check.row("it", Check.area(below, 2), 0, 0, 50, 60, 50);
        check.row("the other", Check.area(below, 0), 0, 0, 0, 60, 50);
        check.row("leaves in order", Check.leaf(below, 0, 1), 2, 2);
        check.due("cuts", below.told(0, 3), 2);
    }

    private static void promise10AsTab() {
        WindowDesk desk = three();
        check.due("as a tab", desk.drag(0, 1, 4), 0);
        check.row("last and shown", Check.leaf(desk, 0, 0), 0, 1, 0);
        check.due("two leaves", desk.told(0, 2), 2);
        check.due("again", desk.drag(1, 0, 4), 0);
        check.row("last of its own leaf", Check.leaf(desk, 0, 0), 1, 0, 1);
        check.due("a third", desk.drag(2, 0, 4), 0);
        check.row("three tabs", Check.leaf(desk, 0, 0), 2, 0, 1, 2);
        check.row("they have all", Check.area(desk, 0), 0, 0, 0, 120, 100);
        check.due("no cut", desk.told(0, 3), 0);
    }

    private static void promise10OutOfItsOwnLeaf() {
        WindowDesk desk = three();
        desk.drag(1, 0, 4);
        desk.drag(2, 0, 4);
        desk.focus(1);
        check.due("out of the leaf", desk.drag(1, 2, 2), 0);
        check.row("the new leaf ahead", Check.leaf(desk, 0, 0), 1, 1);
        check.row("the one behind it is shown", Check.leaf(desk, 0, 1), 2, 0, 2);
        check.row("above", Check.area(desk, 1), 0, 0, 0, 120, 50);
        desk.focus(0);
        check.due("a hidden one goes", desk.drag(2, 0, 1), 0);
        check.row("the shown one stays", Check.leaf(desk, 0, 1), 0, 0);
        check.row("the new one", Check.leaf(desk, 0, 2), 2, 2);
    }

    private static void promise10KeepsItsLeastSize() {
        WindowDesk desk = new WindowDesk();
        desk.screen(0, 200, 100);
        desk.open(1, 10, 12, -1);
        desk.open(1, 30, 45, -1);
        desk.drag(1, 0, 4);
        check.due("a tab's width", desk.told(0, 4), 30);
        check.due("a tab's height", desk.told(0, 5), 45);
        desk.drag(1, 0, 3);
        check.due("below: width", desk.told(0, 4), 30);
        check.due("below: height", desk.told(0, 5), 57);
        desk.drag(1, 0, 0);
        check.due("to the left: width", desk.told(0, 4), 40);
        check.due("to the left: height", desk.told(0, 5), 45);
    }

    private static void promise10Refused() {
        WindowDesk desk = three();
        desk.open(2, 10, 10, -1);
        desk.open(4, 10, 10, -1);
        check.due("the same", desk.drag(1, 1, 0), BAD);
        check.due("a floating one, the same", desk.drag(3, 3, 0), BAD);
        check.due("side 5", desk.drag(0, 1, 5), BAD);
        check.due("side -1", desk.drag(0, 1, -1), BAD);
        check.due("no such window", desk.drag(5, 1, 0), BAD);
        check.due("no such other", desk.drag(1, 5, 0), BAD);
        check.due("-1", desk.drag(-1, 1, 0), BAD);
        check.due("10", desk.drag(0, 10, 0), BAD);
        check.due("BAD ahead of NO", desk.drag(3, 1, 9), BAD);
        check.due("a floating one", desk.drag(3, 1, 0), NO);
        check.due("to a floating one", desk.drag(1, 3, 0), NO);
        check.due("a sticky one", desk.drag(4, 1, 4), NO);
    }

    private static void promise10RefusedChangesNothing() {
        WindowDesk desk = new WindowDesk();
        desk.screen(0, 100, 100);
        desk.open(1, 50, 50, -1);
        desk.open(1, 50, 50, -1);
        desk.open(1, 50, 50, -1);
        desk.open(1, 50, 100, -1);
        check.row("a tab of the leaf of 2 is too high, so", Check.focusRow(desk), 2, 1, 0);
        desk.focus(0);
        desk.focus(1);
        check.due("0 beside 1 would be 100 wide", desk.drag(0, 1, 0), 0);
        check.due("0 above 2 would be 150 high", desk.drag(0, 2, 2), NO);
        check.row("the row", Check.focusRow(desk), 0, 1, 2);
        check.row("0 is where it was", Check.area(desk, 0), 0, 0, 0, 50, 50);
        check.row("1, too", Check.area(desk, 1), 0, 50, 0, 50, 50);
        check.row("2, too", Check.area(desk, 2), 0, 0, 50, 100, 50);
    }

    private static void promise10FitsOnceItHasLeft() {
        WindowDesk desk = new WindowDesk();
        desk.screen(0, 100, 100);
        desk.open(1, 50, 100, -1);
        desk.open(1, 50, 100, -1);
        check.due("it leaves first", desk.drag(0, 1, 1), 0);
        check.row("1 is first now", Check.area(desk, 1), 0, 0, 0, 50, 100);
        check.row("0 is second", Check.area(desk, 0), 0, 50, 0, 50, 100);
        check.due("not above it", desk.drag(0, 1, 2), NO);
        check.due("as a tab", desk.drag(0, 1, 4), 0);
        check.due("not above it either", desk.drag(1, 0, 3), NO);
        check.row("as it was", Check.leaf(desk, 0, 0), 0, 1, 0);
    }

    private static void promise10Focused() {
        WindowDesk desk = three();
        desk.open(3, 10, 10, 0);
        desk.open(2, 10, 10, -1);
        desk.move(3, 77, 66);
        check.due("dragged", desk.drag(0, 2, 3), 0);
        check.row("in front", Check.focusRow(desk), 0, 4, 3, 2, 1);
        check.row("its dialog is raised", Check.stack(desk), 4, 3);
        check.row("and lies where it lay", Check.area(desk, 3), 0, 77, 66, 10, 10);
    }

    /** 0 with dialogs 2 and 3 on screen 1; 1 on screen 0. */
    private static WindowDesk twoScreens(int dialogHeight) {
        WindowDesk desk = new WindowDesk();
        desk.screen(0, 100, 80);
        desk.screen(1, 300, 200);
        desk.open(1, 10, 10, -1);
        desk.open(1, 10, 10, -1);
        desk.close(0);
        desk.gone(0);
        desk.open(1, 10, 10, -1);
        desk.open(3, 30, 20, 0);
        desk.open(3, 10, dialogHeight, 2);
        desk.screen(0, 100, 80);
        return desk;
    }

    private static void promise10ToAnotherScreen() {
        WindowDesk desk = twoScreens(10);
        check.due("1 is on 0", desk.area(1, 0), 0);
        check.due("0 is on 1", desk.area(0, 0), 1);
        desk.open(4, 10, 10, -1);
        desk.move(2, 250, 150);
        desk.move(3, 5, 5);
        check.due("to the other screen", desk.drag(0, 1, 0), 0);
        check.row("it", Check.area(desk, 0), 0, 0, 0, 50, 80);
        check.row("the other", Check.area(desk, 1), 0, 50, 0, 50, 80);
        check.row("its dialog is put there", Check.area(desk, 2), 0, 70, 60, 30, 20);
        check.row("and that one's", Check.area(desk, 3), 0, 5, 5, 10, 10);
        check.due("the tree it left", desk.told(1, 2), 0);
        check.due("no floating ones there", desk.told(1, 6), 0);
        check.due("floating ones here", desk.told(0, 6), 2);
        check.row("raised", Check.stack(desk), 4, 2, 3);
        check.row("in front", Check.focusRow(desk), 0, 4, 3, 2, 1);
        check.due("the screen at hand", desk.open(2, 1, 1, -1), 5);
        check.due("is 0", desk.area(5, 0), 0);
    }

    private static void promise10DialogTooLargeThere() {
        WindowDesk desk = twoScreens(81);
        check.due("a dialog too high there", desk.drag(0, 1, 0), NO);
        check.due("it stays", desk.area(0, 0), 1);
        check.due("with its leaf", desk.told(1, 2), 1);
        check.due("the other has all", desk.area(1, 3), 100);
        check.due("the other way round it can", desk.drag(1, 0, 0), 0);
        check.due("on 1", desk.area(1, 0), 1);
        check.due("on one screen no dialog stands in the way", desk.drag(0, 1, 4), 0);
        WindowDesk wide = new WindowDesk();
        wide.screen(0, 60, 80);
        wide.screen(1, 300, 200);
        wide.open(1, 31, 10, -1);
        wide.gone(0);
        wide.open(1, 30, 10, -1);
        wide.screen(0, 60, 80);
        check.due("the tree there would be too wide", wide.drag(1, 0, 1), NO);
        check.due("below it fits", wide.drag(1, 0, 3), 0);
    }

    private static void promise11Put() {
        WindowDesk desk = new WindowDesk();
        desk.screen(0, 200, 100);
        desk.open(2, 50, 40, -1);
        desk.open(3, 10, 10, 0);
        check.due("inside", desk.move(0, 33, 44), 0);
        check.row("there", Check.area(desk, 0), 0, 33, 44, 50, 40);
        check.row("its dialog stays", Check.area(desk, 1), 0, 20, 15, 10, 10);
        check.due("to the last place", desk.move(0, 150, 60), 0);
        check.row("there", Check.area(desk, 0), 0, 150, 60, 50, 40);
        check.due("one too far", desk.move(0, 151, 61), 0);
        check.row("the nearest", Check.area(desk, 0), 0, 150, 60, 50, 40);
        check.due("below 0", desk.move(0, -1000, -1), 0);
        check.row("the nearest", Check.area(desk, 0), 0, 0, 0, 50, 40);
        check.due("a dialog", desk.move(1, 1000, 1000), 0);
        check.row("the nearest", Check.area(desk, 1), 0, 190, 90, 10, 10);
    }

    private static void promise11Sticky() {
        WindowDesk desk = new WindowDesk();
        desk.screen(0, 100, 100);
        desk.open(4, 50, 40, -1);
        check.due("farther than the screen", desk.move(0, 400, 399), 0);
        check.row("its place", Check.area(desk, 0), NONE, 400, 399, 50, 40);
        check.due("farther than 400", desk.move(0, 401, 1000), 0);
        check.row("the nearest", Check.area(desk, 0), NONE, 400, 400, 50, 40);
        check.due("below 0", desk.move(0, -1, -1000), 0);
        check.row("the nearest", Check.area(desk, 0), NONE, 0, 0, 50, 40);
    }

    private static void promise11NotFocused() {
        WindowDesk desk = new WindowDesk();
        desk.screen(0, 100, 100);
        desk.open(2, 50, 40, -1);
        desk.open(2, 50, 40, -1);
        desk.move(0, 5, 5);
        check.row("the row stays", Check.focusRow(desk), 1, 0);
        check.row("the stack stays", Check.stack(desk), 0, 1);
    }

    private static void promise11Refused() {
        WindowDesk desk = three();
        desk.open(2, 50, 40, -1);
        check.due("x 1001", desk.move(3, 1001, 0), BAD);
        check.due("x -1001", desk.move(3, -1001, 0), BAD);
        check.due("y 1001", desk.move(3, 0, 1001), BAD);
        check.due("y -1001", desk.move(3, 0, -1001), BAD);
        check.due("the least int", desk.move(3, Integer.MIN_VALUE, 0), BAD);
        check.due("the least int, y", desk.move(3, 0, Integer.MIN_VALUE), BAD);
        check.due("no such window", desk.move(4, 0, 0), BAD);
        check.due("-1", desk.move(-1, 0, 0), BAD);
        check.due("a tiled one", desk.move(0, 0, 0), NO);
        check.due("BAD ahead of NO", desk.move(0, 2000, 0), BAD);
        check.row("where it was", Check.area(desk, 3), 0, 30, 30, 50, 40);
    }

    private static void promise12NearestCut() {
        WindowDesk desk = new WindowDesk();
        desk.screen(0, 200, 200);
        for (int i = 0; i < 4; i++) {
            desk.open(1, 10, 10, -1);
        }
        // 0 | (1 / (2 | 3))
        check.due("the one between 2 and 3", desk.share(3, 0, 30), 50);
        check.due("the same from 2", desk.share(2, 0, 40), 30);
        check.due("the outer one from 1", desk.share(1, 0, 60), 50);
        check.due("the same from 0", desk.share(0, 0, 20), 60);
        check.due("the one below 1, from 3", desk.share(3, 1, 90), 50);
        check.due("the same from 1", desk.share(1, 1, 10), 90);
        check.row("0", Check.area(desk, 0), 0, 0, 0, 40, 200);
        check.row("1", Check.area(desk, 1), 0, 40, 0, 160, 20);
        check.row("2", Check.area(desk, 2), 0, 40, 20, 64, 180);
        check.row("3", Check.area(desk, 3), 0, 104, 20, 96, 180);
        check.due("none is down from 0", desk.share(0, 1, 50), NO);
        check.due("focus stays", desk.count(4), 3);
        desk.drag(3, 1, 4);
        desk.focus(1);
        check.due("of a hidden tab", desk.share(3, 1, 33), 10);
        check.due("what it is now", desk.share(2, 1, 34), 33);
    }

    private static void promise12AfterClosing() {
        WindowDesk desk = new WindowDesk();
        desk.screen(0, 100, 100);
        desk.open(1, 10, 10, -1);
        desk.open(1, 10, 10, -1);
        desk.close(0);
        check.due("opened again", desk.open(1, 10, 10, -1), 0);
        check.due("its cut", desk.share(0, 0, 25), 50);
        check.due("the first is 1 now", desk.area(1, 3), 25);
    }

    private static void promise12LeastSizesKept() {
        WindowDesk desk = new WindowDesk();
        desk.screen(0, 100, 80);
        desk.open(1, 30, 10, -1);
        desk.open(1, 45, 10, -1);
        check.due("much", desk.share(0, 0, 90), 50);
        check.due("the second keeps its least", desk.area(0, 3), 55);
        check.due("little", desk.share(1, 0, 10), 90);
        check.due("the first keeps its least", desk.area(0, 3), 30);
        check.due("the second begins there", desk.area(1, 1), 30);
        check.due("cut towards below", desk.screen(0, 99, 80), 0);
        desk.share(0, 0, 35);
        check.due("99 * 35 / 100", desk.area(0, 3), 34);
    }

    private static void promise12Refused() {
        WindowDesk desk = three();
        desk.open(2, 10, 10, -1);
        check.due("v 9", desk.share(0, 0, 9), BAD);
        check.due("v 91", desk.share(0, 0, 91), BAD);
        check.due("how 2", desk.share(0, 2, 50), BAD);
        check.due("how -1", desk.share(0, -1, 50), BAD);
        check.due("no such window", desk.share(4, 0, 50), BAD);
        check.due("-1", desk.share(-1, 0, 50), BAD);
        check.due("BAD ahead of NO", desk.share(3, 0, 5), BAD);
        check.due("a floating one", desk.share(3, 0, 50), NO);
        check.due("v 10", desk.share(0, 0, 10), 50);
        check.due("v 90", desk.share(0, 0, 90), 10);
        WindowDesk single = new WindowDesk();
        single.screen(0, 100, 100);
        single.open(1, 10, 10, -1);
        check.due("no cut", single.share(0, 0, 50), NO);
        check.due("no cut down", single.share(0, 1, 50), NO);
    }
}

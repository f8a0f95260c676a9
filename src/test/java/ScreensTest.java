/** Promises 1 to 3, and how a screen goes and comes back (section 6 of the terms). */
public final class ScreensTest {
    private static final int BAD = Check.BAD, NO = Check.NO, NONE = Check.NONE;
    private static final Check check = new Check();

    public static void main(String[] args) {
        promise1NewObject();
        promise2Sizes();
        promise2ChangesSize();
        promise2RefusedChangesNothing();
        promise3Refused();
        promise3TabsBehindTheOthers();
        promise3FloatingOnesPut();
        promise3LeastOtherScreen();
        section6ComesBackAsItWas();
        section6SmallerScreen();
        section6DoesNotFit();
        section6DialogsComeAlong();
        section6DialogThatCannotBeWhole();
        section6NoMoreWhenTouched();
        section6StaysWhenNotTouched();
        section6BroughtBackElsewhere();
        section6TabsLeaveAsIfClosed();
        section6NothingKept();
        section6FloatingZero();
        check.end();
    }

    private static void promise1NewObject() {
        WindowDesk desk = new WindowDesk();
        check.due("count(0) at first", desk.count(0), 0);
        check.due("count(1) at first", desk.count(1), 0);
        check.due("count(2) at first", desk.count(2), 0);
        check.due("count(3) at first", desk.count(3), 0);
        check.due("count(4) at first", desk.count(4), NONE);
        check.due("count(5) at first", desk.count(5), 0);
        for (int s = 0; s < 3; s++) {
            check.due("told at first", desk.told(s, 0), NO);
        }
        WindowDesk other = new WindowDesk();
        other.screen(0, 100, 100);
        other.open(2, 10, 10, -1);
        check.due("objects share nothing", desk.count(0) + desk.count(1), 0);
    }

    private static void promise2Sizes() {
        WindowDesk desk = new WindowDesk();
        check.due("screen -1", desk.screen(-1, 100, 100), BAD);
        check.due("screen 3", desk.screen(3, 100, 100), BAD);
        check.due("width 39", desk.screen(0, 39, 100), BAD);
        check.due("width 401", desk.screen(0, 401, 100), BAD);
        check.due("height 39", desk.screen(0, 100, 39), BAD);
        check.due("height 401", desk.screen(0, 100, 401), BAD);
        check.due("screen of the least int", desk.screen(Integer.MIN_VALUE, 100, 100), BAD);
        check.due("none has come", desk.count(0), 0);
        check.due("40 x 400", desk.screen(2, 40, 400), 0);
        check.due("400 x 40", desk.screen(0, 400, 40), 0);
        check.due("two screens", desk.count(0), 2);
        check.due("width", desk.told(2, 0), 40);
        check.due("height", desk.told(2, 1), 400);
        check.due("width", desk.told(0, 0), 400);
        check.due("height", desk.told(0, 1), 40);
    }

    private static void promise2ChangesSize() {
        WindowDesk desk = new WindowDesk();
        desk.screen(0, 200, 100);
        desk.open(1, 20, 20, -1);
        desk.open(2, 50, 40, -1);
        desk.open(4, 150, 90, -1);
        desk.move(1, 150, 60);
        desk.move(2, 300, 300);
        check.due("smaller", desk.screen(0, 120, 60), 0);
        check.row("the floating one is put", Check.area(desk, 1), 0, 70, 20, 50, 40);
        check.row("the tiled one fills", Check.area(desk, 0), 0, 0, 0, 120, 60);
        check.row("the sticky one has its place", Check.area(desk, 2), NONE, 300, 300, 150, 90);
        check.due("larger", desk.screen(0, 400, 400), 0);
        check.row("it stays where it was put", Check.area(desk, 1), 0, 70, 20, 50, 40);
        check.due("to its size and no more", desk.screen(0, 50, 40), 0);
        check.row("put at the edge", Check.area(desk, 1), 0, 0, 0, 50, 40);
    }

    private static void promise2RefusedChangesNothing() {
        WindowDesk desk = new WindowDesk();
        desk.screen(0, 200, 100);
        desk.open(1, 60, 30, -1);
        desk.open(1, 70, 50, -1);
        desk.open(2, 40, 80, -1);
        desk.move(2, 160, 20);
        check.due("tree too wide", desk.screen(0, 129, 100), NO);
        check.due("tree too high", desk.screen(0, 130, 49), NO);
        check.due("floating one too high", desk.screen(0, 200, 79), NO);
        check.due("the width", desk.told(0, 0), 200);
        check.due("the height", desk.told(0, 1), 100);
        check.row("the floating one", Check.area(desk, 2), 0, 160, 20, 40, 80);
        check.due("the least that goes", desk.screen(0, 130, 80), 0);
        check.row("first", Check.area(desk, 0), 0, 0, 0, 60, 80);
        check.row("second", Check.area(desk, 1), 0, 60, 0, 70, 80);
        check.due("a floating one too wide", deskWithWide().screen(0, 99, 100), NO);
        check.due("just wide enough", deskWithWide().screen(0, 100, 100), 0);
    }

    private static WindowDesk deskWithWide() {
        WindowDesk desk = new WindowDesk();
        desk.screen(0, 200, 200);
        desk.open(2, 100, 10, -1);
        return desk;
    }

    private static void promise3Refused() {
        WindowDesk desk = new WindowDesk();
        check.due("gone(-1)", desk.gone(-1), BAD);
        check.due("gone(3)", desk.gone(3), BAD);
        check.due("missing", desk.gone(0), NO);
        desk.screen(0, 100, 100);
        check.due("no other one", desk.gone(0), NO);
        check.due("missing, too", desk.gone(1), NO);
        desk.open(1, 50, 60, -1);
        desk.open(1, 40, 70, -1);
        desk.open(2, 10, 90, -1);
        desk.screen(2, 49, 100);
        check.due("tabs too wide there", desk.gone(0), NO);
        desk.screen(2, 50, 69);
        check.due("tabs too high there", desk.gone(0), NO);
        desk.screen(2, 50, 89);
        check.due("floating one too high there", desk.gone(0), NO);
        check.due("nothing kept", desk.count(5), 0);
        check.due("nothing went", desk.told(0, 2), 2);
        desk.screen(2, 50, 90);
        check.due("it goes", desk.gone(0), 3);
        check.due("missing now", desk.told(0, 0), NO);
        check.due("one screen", desk.count(0), 1);
    }

    private static void promise3TabsBehindTheOthers() {
        WindowDesk desk = new WindowDesk();
        desk.screen(1, 100, 100);
        desk.open(1, 10, 10, -1);
        desk.open(1, 10, 10, -1);
        desk.screen(0, 200, 200);
        desk.gone(1);
        // Screen 0 has one leaf with 0 and 1; 1 goes beside 0, so that 0 is in the first leaf.
        desk.drag(1, 0, 3);
        desk.screen(1, 100, 100);
        desk.open(2, 5, 5, -1);
        check.due("on screen 0", desk.area(2, 0), 0);
        check.due("screen 0 goes", desk.gone(0), 3);
        check.row("a new leaf shows the first", Check.leaf(desk, 1, 0), 0, 0, 1);
        desk.screen(2, 100, 100);
        desk.open(1, 10, 10, -1);
        check.due("2 screens", desk.count(0), 2);
        check.row("cut beside the shown leaf", Check.leaf(desk, 1, 1), 3, 3);
        desk.drag(1, 3, 1);
        desk.focus(3);
        desk.drag(3, 1, 4);
        desk.focus(1);
        check.row("leaf 0", Check.leaf(desk, 1, 0), 0, 0);
        check.row("leaf 1", Check.leaf(desk, 1, 1), 1, 1, 3);
        check.due("it goes", desk.gone(1), 4);
        check.row("leaves and tabs in order", Check.leaf(desk, 2, 0), 0, 0, 1, 3);
        check.due("a tab that is not shown", desk.about(1, 4), 0);
        check.due("1 has focus, but is not shown", desk.count(4), 1);
        check.due("so there is no toward", desk.toward(1), NO);
    }

    private static void promise3FloatingOnesPut() {
        WindowDesk desk = new WindowDesk();
        desk.screen(0, 300, 300);
        desk.screen(1, 100, 80);
        desk.open(2, 30, 20, -1);
        desk.open(3, 10, 10, 0);
        desk.open(4, 200, 200, -1);
        desk.move(0, 250, 40);
        desk.move(1, 50, 290);
        check.due("sticky ones are not counted", desk.gone(0), 2);
        check.row("put at the edge", Check.area(desk, 0), 1, 70, 40, 30, 20);
        check.row("the dialog, too", Check.area(desk, 1), 1, 50, 70, 10, 10);
        check.row("not the sticky one", Check.area(desk, 2), NONE, 20, 20, 200, 200);
        check.row("the focus row stays", Check.focusRow(desk), 2, 1, 0);
        check.row("the stack stays", Check.stack(desk), 0, 1, 2);
    }

    private static void promise3LeastOtherScreen() {
        WindowDesk desk = new WindowDesk();
        desk.screen(0, 100, 100);
        desk.screen(1, 100, 100);
        desk.screen(2, 100, 100);
        desk.open(1, 10, 10, -1);
        check.due("screen 0 goes", desk.gone(0), 1);
        check.due("to screen 1", desk.area(0, 0), 1);
        desk.open(1, 10, 10, -1);
        check.due("an empty one goes", desk.gone(2), 0);
        check.due("no more than one", desk.gone(1), NO);
        check.due("and nothing of it is kept", desk.count(5), 1);
    }

    private static WindowDesk fourOnScreenZero() {
        WindowDesk desk = new WindowDesk();
        desk.screen(0, 200, 100);
        desk.screen(1, 300, 200);
        desk.open(1, 20, 20, -1);
        desk.open(1, 30, 30, -1);
        desk.open(1, 10, 40, -1);
        desk.open(2, 40, 25, -1);
        desk.drag(2, 1, 4);
        desk.share(0, 0, 70);
        desk.focus(1);
        desk.move(3, 155, 70);
        return desk;
    }

    private static void section6ComesBackAsItWas() {
        WindowDesk desk = fourOnScreenZero();
        desk.screen(2, 300, 300);
        check.due("4 go", desk.gone(0), 4);
        check.row("all tabs of one leaf", Check.leaf(desk, 1, 0), 0, 0, 1, 2);
        check.due("their least width", desk.told(1, 4), 30);
        check.due("their least height", desk.told(1, 5), 40);
        desk.focus(2);
        desk.screen(1, 100, 90);
        check.row("put again", Check.area(desk, 3), 1, 60, 65, 40, 25);
        check.due("shares elsewhere are not kept ones", desk.share(1, 0, 30), NO);
        check.due("kept", desk.count(5), 1);
        check.due("4 come back", desk.screen(0, 200, 100), 4);
        check.due("nothing is kept", desk.count(5), 0);
        check.row("the first leaf", Check.leaf(desk, 0, 0), 0, 0);
        check.row("the second with the kept shown one", Check.leaf(desk, 0, 1), 1, 1, 2);
        check.row("the share of old", Check.area(desk, 0), 0, 0, 0, 140, 100);
        check.row("the place of old", Check.area(desk, 3), 0, 155, 70, 40, 25);
        check.due("the other tree is empty", desk.told(1, 2), 0);
        check.row("the focus row is not brought back", Check.focusRow(desk), 2, 1, 3, 0);
        check.due("the share", desk.share(0, 0, 50), 70);
    }

    private static void section6SmallerScreen() {
        WindowDesk desk = fourOnScreenZero();
        desk.gone(0);
        check.due("4 come back to a smaller one", desk.screen(0, 50, 40), 4);
        check.row("least sizes kept", Check.area(desk, 0), 0, 0, 0, 20, 40);
        check.row("and on the other side", Check.area(desk, 1), 0, 20, 0, 30, 40);
        check.row("the floating one put", Check.area(desk, 3), 0, 10, 15, 40, 25);
    }

    private static void section6DoesNotFit() {
        WindowDesk desk = fourOnScreenZero();
        desk.gone(0);
        check.due("tree too wide", desk.screen(0, 49, 100), 0);
        check.due("nothing is kept then", desk.count(5), 0);
        check.due("it stays", desk.area(0, 0), 1);
        check.due("the floating one, too", desk.area(3, 0), 1);
        check.due("no leaf", desk.told(0, 2), 0);
        check.due("no tab", desk.tab(0, 0, -1), NONE);
        check.due("no least width", desk.told(0, 4), 0);
        check.due("an empty screen goes", desk.gone(0), 0);
        check.due("and comes, with nothing", desk.screen(0, 400, 400), 0);

        WindowDesk second = new WindowDesk();
        second.screen(0, 200, 200);
        second.screen(1, 200, 200);
        second.open(1, 10, 10, -1);
        second.open(2, 100, 10, -1);
        second.gone(0);
        check.due("a floating one too wide", second.screen(0, 99, 200), 0);
        check.due("no tab comes", second.area(0, 0), 1);
    }

    private static void section6DialogsComeAlong() {
        WindowDesk desk = new WindowDesk();
        desk.screen(0, 200, 100);
        desk.screen(1, 400, 400);
        desk.open(1, 20, 20, -1);
        desk.gone(0);
        desk.open(3, 30, 30, 0);
        desk.open(3, 10, 10, 1);
        desk.open(2, 10, 10, -1);
        desk.move(1, 390, 390);
        check.due("one comes back, two come along", desk.screen(0, 200, 100), 1);
        check.row("the owner", Check.area(desk, 0), 0, 0, 0, 200, 100);
        check.row("its dialog", Check.area(desk, 1), 0, 170, 70, 30, 30);
        check.row("and that one's", Check.area(desk, 2), 0, 190, 90, 10, 10);
        check.row("no other one", Check.area(desk, 3), 1, 30, 30, 10, 10);
    }

    private static void section6DialogThatCannotBeWhole() {
        WindowDesk desk = new WindowDesk();
        desk.screen(0, 200, 100);
        desk.screen(1, 400, 400);
        desk.open(1, 20, 20, -1);
        desk.gone(0);
        desk.open(3, 30, 30, 0);
        desk.open(3, 10, 101, 1);
        check.due("nothing comes back", desk.screen(0, 200, 100), 0);
        check.due("the owner stays", desk.area(0, 0), 1);
        check.due("the dialog stays", desk.area(1, 0), 1);
        check.due("nothing is kept", desk.count(5), 0);
    }

    private static void section6NoMoreWhenTouched() {
        for (int window = 0; window < 4; window++) {
            WindowDesk desk = fourOnScreenZero();
            desk.gone(0);
            desk.close(window);
            check.due("closed " + window, desk.count(5), 0);
            check.due("nothing comes back", desk.screen(0, 200, 100), 0);
        }
        WindowDesk dragged = fourOnScreenZero();
        dragged.gone(0);
        check.due("dragged", dragged.drag(2, 1, 4), 0);
        check.due("no more", dragged.count(5), 0);
        WindowDesk moved = fourOnScreenZero();
        moved.gone(0);
        check.due("moved to where it is", moved.move(3, moved.area(3, 1), moved.area(3, 2)), 0);
        check.due("no more", moved.count(5), 0);
        WindowDesk dialog = fourOnScreenZero();
        check.due("a dialog", dialog.open(3, 5, 5, 3), 4);
        dialog.gone(0);
        check.due("the owner of a kept one is closed", dialog.close(3), 2);
        check.due("no more", dialog.count(5), 0);
    }

    private static void section6StaysWhenNotTouched() {
        WindowDesk desk = fourOnScreenZero();
        desk.open(4, 10, 10, -1);
        desk.gone(0);
        desk.focus(2);
        desk.back();
        check.due("a dialog of one", desk.open(3, 5, 5, 0), 5);
        check.due("it is moved", desk.move(5, 1, 1), 0);
        check.due("it is closed", desk.close(5), 1);
        check.due("a sticky one is moved", desk.move(4, 1, 1), 0);
        check.due("another is opened", desk.open(1, 10, 10, -1), 5);
        check.due("and dragged to one", desk.drag(5, 0, 2), 0);
        check.due("a share", desk.share(5, 1, 60), 50);
        check.due("refused: the same", desk.drag(1, 1, 0), BAD);
        check.due("refused: not tiled", desk.drag(1, 3, 0), NO);
        check.due("refused: not floating", desk.move(1, 0, 0), NO);
        check.due("refused: the place", desk.move(3, 1001, 0), BAD);
        check.due("another size", desk.screen(1, 301, 200), 0);
        check.due("still kept", desk.count(5), 1);
        check.due("4 come back", desk.screen(0, 200, 100), 4);
        check.row("the other one has the leaf", Check.leaf(desk, 1, 0), 5, 5);
        check.due("and all of the screen", desk.area(5, 4), 200);
    }

    private static void section6BroughtBackElsewhere() {
        WindowDesk desk = fourOnScreenZero();
        desk.screen(2, 400, 400);
        desk.gone(0);
        desk.open(1, 10, 10, -1);
        check.due("5 go on", desk.gone(1), 5);
        check.due("kept with two", desk.count(5), 2);
        check.due("too small for the second", desk.screen(1, 40, 39), BAD);
        check.due("4 come back to the first", desk.screen(0, 200, 100), 4);
        check.due("kept with none", desk.count(5), 0);
        check.due("nothing comes back to the second", desk.screen(1, 300, 200), 0);
        check.due("the fifth stays", desk.area(4, 0), 2);

        WindowDesk second = fourOnScreenZero();
        second.screen(2, 400, 400);
        second.gone(0);
        second.gone(1);
        check.due("4 come back to the second", second.screen(1, 300, 200), 4);
        check.due("kept with none", second.count(5), 0);
        check.row("as tabs", Check.leaf(second, 1, 0), 0, 0, 1, 2);

        WindowDesk third = fourOnScreenZero();
        third.screen(2, 400, 400);
        third.gone(0);
        third.open(2, 200, 200, -1);
        third.gone(1);
        check.due("the second is too small", third.screen(1, 40, 40), 0);
        check.due("kept with the first alone", third.count(5), 1);
        check.due("4 come back to the first", third.screen(0, 200, 100), 4);
        check.due("the large one stays", third.area(4, 0), 2);
    }

    private static void section6TabsLeaveAsIfClosed() {
        WindowDesk desk = new WindowDesk();
        desk.screen(1, 100, 100);
        desk.screen(0, 100, 100);
        desk.open(2, 1, 1, -1);
        desk.screen(0, 100, 100);
        desk.gone(1);
        desk.open(1, 10, 10, -1);
        desk.open(1, 10, 10, -1);
        desk.screen(1, 100, 100);
        desk.gone(0);
        desk.open(1, 60, 60, -1);
        desk.drag(3, 1, 4);
        desk.focus(2);
        check.row("three tabs", Check.leaf(desk, 1, 0), 2, 1, 2, 3);
        check.due("two tabs and a floating one", desk.screen(0, 100, 100), 3);
        check.row("the one behind is shown", Check.leaf(desk, 1, 0), 3, 3);
        check.row("shown as kept", Check.leaf(desk, 0, 1), 2, 2);
        check.due("focus stays", desk.count(4), 2);
    }

    private static void section6FloatingZero() {
        WindowDesk desk = new WindowDesk();
        desk.screen(0, 200, 200);
        desk.screen(1, 200, 200);
        desk.open(2, 100, 90, -1);
        desk.gone(0);
        check.due("kept", desk.count(5), 1);
        check.due("the only floating one there", desk.told(1, 6), 1);
        check.due("too wide, so it stays", desk.screen(0, 99, 200), 0);
        check.due("on 1", desk.area(0, 0), 1);
        check.due("too small to go there", desk.gone(1), NO);
        desk.screen(0, 200, 89);
        check.due("too low to go there", desk.gone(1), NO);
        desk.screen(0, 100, 90);
        check.due("just large enough", desk.gone(1), 1);
        check.due("on 0", desk.area(0, 0), 0);
        check.due("just large enough to come back", desk.screen(1, 100, 90), 1);
        check.due("on 1 again", desk.area(0, 0), 1);
        desk.gone(0);
        desk.screen(0, 400, 400);
        desk.gone(1);
        check.due("closed", desk.close(0), 1);
        check.due("nothing kept", desk.count(5), 0);
        desk.screen(1, 100, 100);
        desk.screen(2, 100, 100);
        desk.open(2, 10, 10, -1);
        desk.gone(0);
        desk.gone(1);
        check.due("kept with two", desk.count(5), 2);
        check.due("comes back to the first", desk.screen(0, 100, 100), 1);
        check.due("kept with none", desk.count(5), 0);
    }

    private static void section6NothingKept() {
        WindowDesk desk = new WindowDesk();
        desk.screen(0, 100, 100);
        desk.screen(1, 100, 100);
        desk.open(4, 10, 10, -1);
        check.due("only a sticky one", desk.gone(0), 0);
        check.due("nothing kept", desk.count(5), 0);
        check.due("nothing comes back", desk.screen(0, 100, 100), 0);
        desk.open(2, 10, 10, -1);
        check.due("on the least screen", desk.area(1, 0), 0);
        check.due("a floating one goes", desk.gone(0), 1);
        check.due("kept", desk.count(5), 1);
        check.due("a floating one comes back", desk.screen(0, 100, 100), 1);
    }
}

/** Promises 6 (focus) to 9 (steps). */
public final class FocusTest {
    private static final int BAD = Check.BAD, NO = Check.NO, NONE = Check.NONE;
    private static final Check check = new Check();

    public static void main(String[] args) {
        promise6Bad();
        promise6FocusRow();
        promise6ShowsTheTab();
        promise6RaisesDialogs();
        promise6RaisesDialogsOfATiledOne();
        promise6RaisesALongChain();
        promise7Back();
        promise7OfTwo();
        promise8Toward();
        promise8Refused();
        promise9Steps();
        promise9NoWay();
        promise9Refused();
        check.end();
    }

    private static void promise6Bad() {
        WindowDesk desk = new WindowDesk();
        check.due("no window", desk.focus(0), BAD);
        desk.screen(0, 100, 100);
        desk.open(2, 10, 10, -1);
        check.due("focus(-1)", desk.focus(-1), BAD);
        check.due("focus(1)", desk.focus(1), BAD);
        check.due("focus(10)", desk.focus(10), BAD);
        check.due("focus of the greatest int", desk.focus(Integer.MAX_VALUE), BAD);
        check.due("which has it", desk.count(4), 0);
    }

    private static void promise6FocusRow() {
        WindowDesk desk = new WindowDesk();
        desk.screen(0, 100, 100);
        for (int i = 0; i < 4; i++) {
            desk.open(i == 2 ? 4 : 2, 10, 10, -1);
        }
        check.row("at first", Check.focusRow(desk), 3, 2, 1, 0);
        check.due("3 had focus", desk.focus(1), 3);
        check.row("to the front", Check.focusRow(desk), 1, 3, 2, 0);
        check.row("to the top", Check.stack(desk), 0, 2, 3, 1);
        check.due("1 had focus", desk.focus(1), 1);
        check.row("as before", Check.focusRow(desk), 1, 3, 2, 0);
        check.due("1 had focus", desk.focus(0), 1);
        check.due("0 had focus", desk.focus(2), 0);
        check.row("the row", Check.focusRow(desk), 2, 0, 1, 3);
        check.row("the stack", Check.stack(desk), 3, 1, 0, 2);
    }

    private static void promise6ShowsTheTab() {
        WindowDesk desk = new WindowDesk();
        desk.screen(0, 60, 60);
        desk.open(1, 40, 40, -1);
        desk.open(1, 40, 40, -1);
        check.due("0 is not shown", desk.about(0, 4), 0);
        check.due("1 had focus", desk.focus(0), 1);
        check.row("0 is shown, the order stays", Check.leaf(desk, 0, 0), 0, 0, 1);
        check.due("1 is not shown", desk.about(1, 4), 0);
    }

    private static void promise6RaisesDialogs() {
        WindowDesk desk = new WindowDesk();
        desk.screen(0, 200, 200);
        desk.open(2, 100, 100, -1);
        desk.open(3, 10, 10, 0);
        desk.open(3, 10, 10, 0);
        desk.open(3, 10, 10, 1);
        desk.open(2, 10, 10, -1);
        check.row("as opened", Check.stack(desk), 0, 1, 2, 3, 4);
        desk.focus(0);
        check.row("each with its own above", Check.stack(desk), 4, 0, 1, 3, 2);
        check.row("the row has only 0 ahead", Check.focusRow(desk), 0, 4, 3, 2, 1);
        desk.focus(1);
        check.row("1 and what is its own", Check.stack(desk), 4, 0, 2, 1, 3);
        desk.focus(4);
        desk.focus(0);
        check.row("in the order of the stack", Check.stack(desk), 4, 0, 2, 1, 3);
        desk.focus(3);
        check.row("owners stay", Check.stack(desk), 4, 0, 2, 1, 3);
        desk.focus(2);
        check.row("only 2", Check.stack(desk), 4, 0, 1, 3, 2);
    }

    private static void promise6RaisesDialogsOfATiledOne() {
        WindowDesk desk = new WindowDesk();
        desk.screen(0, 200, 200);
        desk.open(1, 10, 10, -1);
        desk.open(3, 10, 10, 0);
        desk.open(3, 10, 10, 0);
        desk.open(2, 10, 10, -1);
        desk.open(1, 10, 10, -1);
        check.due("4 had focus", desk.focus(0), 4);
        check.row("its dialogs on top", Check.stack(desk), 3, 1, 2);
        check.row("it alone in front", Check.focusRow(desk), 0, 4, 3, 2, 1);
        check.due("it is not in the stack", desk.about(0, 6), NONE);
    }

    private static void promise6RaisesALongChain() {
        WindowDesk desk = new WindowDesk();
        desk.screen(0, 200, 200);
        desk.open(2, 10, 10, -1);
        for (int i = 1; i < 9; i++) {
            check.due("a dialog of the one before", desk.open(3, 10, 10, i - 1), i);
        }
        desk.open(4, 10, 10, -1);
        desk.focus(0);
        check.row("all nine are raised", Check.stack(desk), 9, 0, 1, 2, 3, 4, 5, 6, 7, 8);
        desk.focus(9);
        desk.close(9);
        check.due("a ninth dialog", desk.open(3, 10, 10, 8), 9);
        check.row("ten", Check.stack(desk), 0, 1, 2, 3, 4, 5, 6, 7, 8, 9);
        desk.focus(0);
        check.row("ten again", Check.stack(desk), 0, 1, 2, 3, 4, 5, 6, 7, 8, 9);
        check.due("all are closed", desk.close(0), 10);
    }

    private static void promise7OfTwo() {
        WindowDesk desk = new WindowDesk();
        desk.screen(0, 100, 100);
        desk.open(2, 10, 10, -1);
        desk.open(2, 10, 10, -1);
        check.due("the second of two", desk.back(), 0);
        check.row("raised", Check.stack(desk), 1, 0);
        check.due("and the other", desk.back(), 1);
    }

    private static void promise7Back() {
        WindowDesk desk = new WindowDesk();
        check.due("no window", desk.back(), NO);
        desk.screen(0, 60, 60);
        desk.open(1, 40, 40, -1);
        check.due("one window", desk.back(), NO);
        desk.open(1, 40, 40, -1);
        desk.open(2, 10, 10, -1);
        desk.open(2, 10, 10, -1);
        check.due("back to 2", desk.back(), 2);
        check.row("the row", Check.focusRow(desk), 2, 3, 1, 0);
        check.row("2 is raised", Check.stack(desk), 3, 2);
        check.due("back to 3", desk.back(), 3);
        desk.focus(0);
        desk.focus(2);
        desk.focus(1);
        desk.focus(2);
        check.due("1 is shown", desk.about(1, 4), 1);
        desk.focus(0);
        desk.focus(2);
        desk.close(0);
        desk.open(1, 40, 40, -1);
        check.row("the row", Check.focusRow(desk), 0, 2, 1, 3);
        check.due("back to a floating one", desk.back(), 2);
        desk.close(3);
        desk.focus(1);
        desk.focus(0);
        check.due("back to a tab", desk.back(), 1);
        check.due("it is shown", desk.about(1, 4), 1);
    }

    /** 0 on the left; 1 over 2 on the right, 1 the higher one. */
    private static WindowDesk three() {
        WindowDesk desk = new WindowDesk();
        desk.screen(0, 100, 100);
        desk.open(1, 10, 10, -1);
        desk.open(1, 10, 10, -1);
        desk.open(1, 10, 10, -1);
        desk.share(1, 1, 60);
        return desk;
    }

    private static void promise8Toward() {
        WindowDesk desk = three();
        check.due("left of 2", desk.toward(0), 0);
        check.due("0 has focus", desk.count(4), 0);
        check.due("left of 0", desk.toward(0), NONE);
        check.due("up from 0", desk.toward(2), NONE);
        check.due("0 still has it", desk.count(4), 0);
        check.due("right of 0: the most of the border", desk.toward(1), 1);
        check.due("down from 1", desk.toward(3), 2);
        check.due("up from 2", desk.toward(2), 1);
        check.row("the row", Check.focusRow(desk), 1, 2, 0);
        desk.share(1, 1, 50);
        desk.focus(0);
        check.due("as much: the least number", desk.toward(1), 1);
        desk.share(1, 1, 49);
        desk.focus(0);
        check.due("one point less", desk.toward(1), 2);
        desk.open(3, 10, 10, 1);
        desk.open(3, 10, 10, 0);
        desk.focus(0);
        desk.share(1, 1, 70);
        check.due("toward 1", desk.toward(1), 1);
        check.row("its dialog is raised", Check.stack(desk), 4, 3);
    }

    private static void promise8Refused() {
        WindowDesk desk = new WindowDesk();
        check.due("BAD ahead of NO", desk.toward(-1), BAD);
        check.due("no window", desk.toward(0), NO);
        desk.screen(0, 100, 60);
        desk.screen(1, 60, 60);
        desk.open(1, 40, 40, -1);
        check.due("side 4", desk.toward(4), BAD);
        check.due("side -1", desk.toward(-1), BAD);
        check.due("alone", desk.toward(0), NONE);
        desk.open(1, 40, 40, -1);
        desk.open(2, 10, 10, -1);
        check.due("a floating one", desk.toward(0), NO);
        desk.focus(1);
        desk.gone(0);
        check.due("not shown", desk.toward(0), NO);
    }

    private static void promise9Steps() {
        WindowDesk desk = three();
        check.due("to itself", desk.steps(1, 1), 0);
        check.due("beside", desk.steps(0, 1), 1);
        check.due("by way of 1, as 1 has more of the border", desk.steps(0, 2), 2);
        check.due("straight back", desk.steps(2, 0), 1);
        check.due("focus stays", desk.count(4), 2);
        check.row("the row stays", Check.focusRow(desk), 2, 1, 0);
        for (int i = 3; i < 8; i++) {
            desk.open(1, 1, 1, -1);
        }
        check.due("a longer way", desk.steps(0, 7), 5);
    }

    private static void promise9NoWay() {
        WindowDesk desk = new WindowDesk();
        desk.screen(0, 100, 100);
        desk.screen(1, 100, 100);
        desk.open(1, 10, 10, -1);
        desk.gone(0);
        desk.open(1, 10, 10, -1);
        check.due("side by side", desk.steps(0, 1), 1);
        check.due("one comes back", desk.screen(0, 100, 100), 1);
        check.due("no way to another screen", desk.steps(0, 1), NONE);
        check.due("nor from it", desk.steps(1, 0), NONE);
        check.due("1 has focus", desk.count(4), 1);
        check.due("nor toward it", desk.toward(0), NONE);
    }

    private static void promise9Refused() {
        WindowDesk desk = three();
        desk.open(2, 10, 10, -1);
        check.due("none", desk.steps(0, 4), BAD);
        check.due("none ahead", desk.steps(-1, 0), BAD);
        check.due("10", desk.steps(10, 0), BAD);
        check.due("BAD ahead of NO", desk.steps(3, 9), BAD);
        check.due("to a floating one", desk.steps(0, 3), NO);
        check.due("from a floating one", desk.steps(3, 0), NO);
        check.due("a floating one to itself", desk.steps(3, 3), NO);
        desk.drag(1, 0, 4);
        check.due("from a hidden tab", desk.steps(0, 2), NO);
        check.due("to a hidden tab", desk.steps(2, 0), NO);
        check.due("to a shown one", desk.steps(2, 1), 1);
    }
}

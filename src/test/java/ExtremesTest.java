/** Every call with every mix of arguments at and far beyond the edges, answered as by the plain model. */
public final class ExtremesTest {
    private static final int[] EDGES = {Integer.MIN_VALUE, Integer.MIN_VALUE + 1, -1001, -3, -2, -1, 0, 1, 2, 3, 4,
        9, 10, 90, 200, 400, 401, 1000, 1001, Integer.MAX_VALUE - 1, Integer.MAX_VALUE};
    private static final Check check = new Check();

    public static void main(String[] args) {
        for (int stage = 0; stage < 4; stage++) {
            new ExtremesTest(stage).run();
        }
        check.end();
    }

    private final WindowDesk desk = new WindowDesk();
    private final PlainDesk plain = new PlainDesk();
    private final int stage;

    /** Stage 0 has nothing, 1 a screen, 2 windows of all kinds, 3 ten of them and something kept. */
    private ExtremesTest(int stage) {
        this.stage = stage;
        if (stage > 0) {
            screen(1, 300, 200);
        }
        if (stage > 1) {
            open(1, 10, 20, -1);
            open(1, 30, 10, -1);
            open(2, 50, 40, -1);
            open(3, 20, 20, 1);
            open(4, 60, 50, -1);
        }
        if (stage > 2) {
            screen(2, 200, 200);
            gone(1);
            screen(0, 100, 100);
            for (int i = 0; i < 5; i++) {
                open(1 + i % 2, 10, 10, -1);
            }
        }
    }

    private void same(String call, int got, int want) {
        check.due("stage " + stage + ": " + call, got, want);
    }

    private void run() {
        for (int a : EDGES) {
            ofOne(a);
            for (int b : EDGES) {
                ofTwo(a, b);
                for (int c : EDGES) {
                    ofThree(a, b, c);
                    opens(a, b, c);
                }
            }
        }
        same("back()", desk.back(), plain.back());
        same("count(1)", desk.count(1), plain.count(1));
    }

    private void ofOne(int a) {
        gone(a);
        same("close(" + a + ")", desk.close(a > 4 ? a : -1), plain.close(a > 4 ? a : -1));
        same("focus(" + a + ")", desk.focus(a), plain.focus(a));
        same("toward(" + a + ")", desk.toward(a), plain.toward(a));
        same("count(" + a + ")", desk.count(a), plain.count(a));
    }

    private void ofTwo(int a, int b) {
        String text = "(" + a + ", " + b + ")";
        same("steps" + text, desk.steps(a, b), plain.steps(a, b));
        same("area" + text, desk.area(a, b), plain.area(a, b));
        same("about" + text, desk.about(a, b), plain.about(a, b));
        same("isOf" + text, desk.isOf(a, b), plain.isOf(a, b));
        same("neighbour" + text, desk.neighbour(a, b), plain.neighbour(a, b));
        same("told" + text, desk.told(a, b), plain.told(a, b));
    }

    private void ofThree(int a, int b, int c) {
        String text = "(" + a + ", " + b + ", " + c + ")";
        screen(a, b, c);
        same("drag" + text, desk.drag(a, b, c), plain.drag(a, b, c));
        same("move" + text, desk.move(a, b, c), plain.move(a, b, c));
        same("share" + text, desk.share(a, b, c), plain.share(a, b, c));
        same("at" + text, desk.at(a, b, c), plain.at(a, b, c));
        same("tab" + text, desk.tab(a, b, c), plain.tab(a, b, c));
    }

    private void opens(int a, int b, int c) {
        open(a, b, c, -1);
        open(a, b, c, 1);
        open(1, a, b, c);
        open(3, a, b, c);
    }

    private void screen(int s, int w, int h) {
        same("screen(" + s + ", " + w + ", " + h + ")", desk.screen(s, w, h), plain.screen(s, w, h));
    }

    private void gone(int s) {
        same("gone(" + s + ")", desk.gone(s), plain.gone(s));
    }

    private void open(int kind, int w, int h, int owner) {
        same("open(" + kind + ", " + w + ", " + h + ", " + owner + ")",
                desk.open(kind, w, h, owner), plain.open(kind, w, h, owner));
    }
}

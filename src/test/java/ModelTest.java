import java.util.Random;

/** Long runs of calls, always the same ones, answered by WindowDesk as by the plain model. */
public final class ModelTest {
    private static final int[] WEIGHTS = {12, 10, 24, 6, 8, 4, 8, 0, 16, 7, 8};

    private static int answers = 0;

    private final Random random;
    private final WindowDesk desk = new WindowDesk();
    private final PlainDesk plain = new PlainDesk();
    private final StringBuilder calls = new StringBuilder();
    private final int most;
    private final boolean smallScreens;

    private ModelTest(long seed) {
        random = new Random(seed);
        most = new int[] {10, 30, 60, 120, 200}[random.nextInt(5)];
        smallScreens = random.nextInt(3) == 0;
    }

    public static void main(String[] args) {
        int runs = args.length > 0 ? Integer.parseInt(args[0]) : 400;
        for (int seed = 0; seed < runs; seed++) {
            new ModelTest(seed).run(100);
        }
        System.out.println(answers + " answers are as the model's");
    }

    private void run(int length) {
        for (int i = 0; i < length; i++) {
            change();
            compareAll();
        }
    }

    private void same(String call, int got, int want) {
        answers++;
        if (got != want) {
            System.out.println("after" + calls + "\n" + call + " answered " + got + ", due is " + want);
            System.exit(1);
        }
    }

    private int of(int low, int high) {
        return low + random.nextInt(high - low + 1);
    }

    private boolean oneIn(int n) {
        return random.nextInt(n) == 0;
    }

    private int window() {
        int windows = desk.count(1);
        return oneIn(25) ? of(-2, 11) : of(0, Math.max(0, windows - 1));
    }

    private int screenSize() {
        return oneIn(25) ? of(38, 402) : smallScreens ? of(40, 130) : of(40, 400);
    }

    private int windowSize() {
        return oneIn(40) ? of(-1, 202) : of(1, most);
    }

    private int place() {
        return oneIn(30) ? of(-1002, 1002) : of(-50, 450);
    }

    private int call() {
        int sum = 0;
        for (int weight : WEIGHTS) {
            sum += weight;
        }
        int left = random.nextInt(sum);
        for (int i = 0; i < WEIGHTS.length; i++) {
            left -= WEIGHTS[i];
            if (left < 0) {
                return i;
            }
        }
        return 0;
    }

    private void did(String call, int got, int want) {
        same(call, got, want);
        calls.append(' ').append(call).append('=').append(got).append(';');
    }

    private static String text(String name, int... args) {
        StringBuilder b = new StringBuilder(name).append('(');
        for (int i = 0; i < args.length; i++) {
            b.append(i == 0 ? "" : ", ").append(args[i]);
        }
        return b.append(')').toString();
    }

    private void change() {
        int a = window();
        int b = window();
        int s = oneIn(30) ? of(-1, 3) : of(0, 2);
        int w = screenSize();
        int h = screenSize();
        switch (call()) {
            case 0 -> did(text("screen", s, w, h), desk.screen(s, w, h), plain.screen(s, w, h));
            case 1 -> did(text("gone", s), desk.gone(s), plain.gone(s));
            case 2 -> opens(a);
            case 3 -> did(text("close", a), desk.close(a), plain.close(a));
            case 4 -> did(text("focus", a), desk.focus(a), plain.focus(a));
            case 5 -> did("back()", desk.back(), plain.back());
            case 6 -> {
                int side = oneIn(30) ? of(-1, 4) : of(0, 3);
                did(text("toward", side), desk.toward(side), plain.toward(side));
            }
            case 8 -> {
                int side = oneIn(30) ? of(-1, 5) : of(0, 4);
                did(text("drag", a, b, side), desk.drag(a, b, side), plain.drag(a, b, side));
            }
            case 9 -> {
                int x = place();
                int y = place();
                did(text("move", a, x, y), desk.move(a, x, y), plain.move(a, x, y));
            }
            default -> {
                int how = oneIn(30) ? of(-1, 2) : of(0, 1);
                int v = oneIn(10) ? of(8, 92) : of(10, 90);
                did(text("share", a, how, v), desk.share(a, how, v), plain.share(a, how, v));
            }
        }
    }

    private void opens(int near) {
        int kind = oneIn(40) ? of(-1, 6) : oneIn(2) ? 1 : of(2, 4);
        int owner = oneIn(40) ? of(-2, 10) : kind == 3 ? near : -1;
        int w = windowSize();
        int h = windowSize();
        did(text("open", kind, w, h, owner), desk.open(kind, w, h, owner), plain.open(kind, w, h, owner));
    }

    private void compareAll() {
        for (int window = -1; window <= 10; window++) {
            compareWindow(window);
        }
        for (int s = -1; s <= 3; s++) {
            compareScreen(s);
        }
        for (int what = -1; what <= 6; what++) {
            same(text("count", what), desk.count(what), plain.count(what));
        }
    }

    private void compareWindow(int window) {
        for (int what = -1; what <= 7; what++) {
            same(text("area", window, what), desk.area(window, what), plain.area(window, what));
            same(text("about", window, what), desk.about(window, what), plain.about(window, what));
            same(text("isOf", window, what), desk.isOf(window, what), plain.isOf(window, what));
        }
        for (int side = -1; side <= 4; side++) {
            same(text("neighbour", window, side), desk.neighbour(window, side), plain.neighbour(window, side));
        }
        for (int i = 0; i < 2; i++) {
            int other = of(-1, 10);
            same(text("steps", window, other), desk.steps(window, other), plain.steps(window, other));
        }
    }

    private void compareScreen(int s) {
        for (int what = -1; what <= 7; what++) {
            same(text("told", s, what), desk.told(s, what), plain.told(s, what));
        }
        int leaves = Math.max(0, desk.told(s, 2));
        for (int i = -1; i <= leaves; i++) {
            int tabs = Math.max(0, desk.tab(s, i, -1));
            for (int k = -3; k <= tabs; k++) {
                same(text("tab", s, i, k), desk.tab(s, i, k), plain.tab(s, i, k));
            }
        }
        int w = Math.max(0, desk.told(s, 0));
        int h = Math.max(0, desk.told(s, 1));
        for (int i = 0; i < 8; i++) {
            int x = i == 0 ? w : i == 1 ? -1 : i == 2 ? w - 1 : of(0, w);
            int y = i == 3 ? h : i == 4 ? -1 : i == 2 ? h - 1 : of(0, h);
            same(text("at", s, x, y), desk.at(s, x, y), plain.at(s, x, y));
        }
    }
}

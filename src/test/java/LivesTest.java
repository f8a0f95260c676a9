import java.lang.reflect.InvocationTargetException;
import java.lang.reflect.Method;
import java.util.ArrayList;
import java.util.Arrays;
import java.util.List;
import java.util.Random;

/**
 * Whole lives of objects: 512 calls of all kinds in any order and with any arguments, answered as by the plain
 * model. ModelTest asks everything after each change; here nothing is asked but what the run itself asks, so that
 * an answer that leans on an earlier question is found.
 */
public final class LivesTest {
    private static final int CALLS = 512;

    /** How often, the call, and a sign for each argument: see 'argument'. */
    private static final String[] FACE = {
        "6 screen s d d", "6 gone s", "14 open k z z o", "6 close w", "4 focus w", "2 back", "3 toward i",
        "3 steps w w", "7 drag w w i", "2 move w p p", "5 share w h v", "10 area w i", "6 about w j", "2 isOf w i",
        "9 at s p p", "5 neighbour w i", "4 told s j", "3 tab s i t", "3 count j"};

    private static int answers = 0;
    private static int refusals = 0;

    private final Random random;
    private final WindowDesk desk = new WindowDesk();
    private final PlainDesk plain = new PlainDesk();
    private final List<String> told = new ArrayList<>();
    private final int mostSize;

    private LivesTest(long seed) {
        random = new Random(seed);
        mostSize = new int[] {12, 25, 50, 100, 200}[random.nextInt(5)];
    }

    public static void main(String[] args) {
        int lives = args.length > 0 ? Integer.parseInt(args[0]) : 600;
        for (int seed = 0; seed < lives; seed++) {
            new LivesTest(seed).live();
        }
        System.out.println(answers + " answers are as the model's, " + refusals + " of them refusals");
    }

    private void live() {
        for (int i = 0; i < CALLS; i++) {
            String[] words = call(i).split(" ");
            Object[] values = new Object[words.length - 2];
            for (int k = 0; k < values.length; k++) {
                values[k] = oneIn(150) ? far() : argument(words[k + 2].charAt(0), values);
            }
            compare(words[1], values);
        }
    }

    /** The first two calls are for screens: without them a life is empty. */
    private String call(int i) {
        int left = i < 2 ? 0 : random.nextInt(100);
        for (String call : FACE) {
            left -= Integer.parseInt(call.substring(0, call.indexOf(' ')));
            if (left < 0) {
                return call;
            }
        }
        return FACE[0];
    }

    private int argument(char sign, Object[] before) {
        switch (sign) {
            case 's':
                return oneIn(40) ? of(-1, 3) : of(0, 2);
            case 'd':
                return oneIn(30) ? of(38, 402) : of(40, oneIn(3) ? 120 : 400);
            case 'k':
                return oneIn(40) ? of(-1, 6) : oneIn(2) ? 1 : of(1, 4);
            case 'z':
                return oneIn(40) ? of(-1, 202) : of(1, mostSize);
            case 'o':
                return (int) before[0] == 3 ? argument('w', before) : oneIn(40) ? of(-2, 9) : -1;
            case 'w':
                return oneIn(20) ? of(-2, 11) : of(0, Math.max(0, plain.count(1) - 1));
            case 'p':
                return oneIn(20) ? of(-1002, 1002) : of(-20, 420);
            case 'h':
                return oneIn(20) ? of(-1, 2) : of(0, 1);
            case 'v':
                return oneIn(20) ? of(8, 92) : of(10, 90);
            case 't':
                return of(-3, 3);
            case 'i':
                return oneIn(20) ? of(-1, 5) : of(0, 4);
            default:
                return oneIn(20) ? of(-1, 7) : of(0, 6);
        }
    }

    private int far() {
        return Runs.FAR[random.nextInt(Runs.FAR.length)];
    }

    private int of(int low, int high) {
        return low + random.nextInt(high - low + 1);
    }

    private boolean oneIn(int n) {
        return random.nextInt(n) == 0;
    }

    private void compare(String name, Object[] values) {
        int got = answer(desk, name, values);
        int want = answer(plain, name, values);
        List<String> words = new ArrayList<>();
        for (Object value : values) {
            words.add(value.toString());
        }
        told.add(name + "(" + String.join(", ", words) + ") = " + want);
        answers++;
        refusals += want == Check.BAD || want == Check.NO || want == Check.FULL ? 1 : 0;
        if (got != want) {
            System.out.println(String.join("; ", told) + "\nthe last one answered " + got);
            System.exit(1);
        }
    }

    private static int answer(Object subject, String name, Object[] values) {
        Class<?>[] types = new Class<?>[values.length];
        Arrays.fill(types, int.class);
        try {
            Method method = subject.getClass().getDeclaredMethod(name, types);
            return (int) method.invoke(subject, values);
        } catch (NoSuchMethodException | IllegalAccessException | InvocationTargetException e) {
            throw new IllegalStateException(name + " of " + subject.getClass(), e);
        }
    }
}

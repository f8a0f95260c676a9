import java.util.ArrayList;
import java.util.Arrays;
import java.util.List;
import java.util.regex.Matcher;
import java.util.regex.Pattern;

/**
 * Runs of calls on new objects, written as text: a call a line (or ';' between two), behind '=' the answer
 * that is due, behind '#' a remark. A call without a due answer must not be refused.
 *
 * <p>Beside the calls of the face there are box(w): area(w, 0) to area(w, 4); leaf(s, i): the SHOWN one, then
 * all TABS; focusRow() and stack(): the numbers in their order. Their answers are numbers with spaces between.
 */
final class Runs {
    /** Arguments at the ends of what an int can be. */
    static final int[] FAR = {Integer.MIN_VALUE, Integer.MIN_VALUE + 1, Integer.MAX_VALUE - 1, Integer.MAX_VALUE};

    /** The document promises nothing behind this many calls. */
    private static final int MOST_CALLS = 512;
    private static final Pattern CALL = Pattern.compile("(\\w+)\\(([^)]*)\\)(?:\\s*=\\s*(\\S.*))?");
    private static final String ALL_COME = "screen(%d, 400, 400); screen(%d, 400, 400); screen(%d, 400, 400)";

    /**
     * What is done, on a desk that was asked something and on its twin that was not, to find what no question
     * shows: what is KEPT with each screen (the one that comes first has its own), shares, leaf and screen at hand.
     */
    private static final List<List<Line>> AFTERWARDS = List.of(
            parse(""),
            parse(ALL_COME.formatted(0, 1, 2)),
            parse(ALL_COME.formatted(1, 0, 2)),
            parse(ALL_COME.formatted(2, 0, 1)),
            parse(allShares()),
            parse("open(1, 1, 1, -1); open(2, 1, 1, -1); open(3, 1, 1, 0); open(4, 1, 1, -1)"));

    private record Line(String text, String name, int[] args, int[] due) { }

    private final Check check = new Check();

    /** One run on a new object. */
    void run(String sentence, String calls) {
        WindowDesk desk = new WindowDesk();
        List<String> done = new ArrayList<>();
        for (Line line : parse(calls)) {
            int[] got = answer(desk, line);
            String where = sentence + " | " + String.join("; ", done) + " | " + line.text();
            if (line.due() == null) {
                check.due(where + " is refused", isRefusal(got[0]) ? got[0] : 0, 0);
            } else {
                check.due(where + " answered " + words(got) + ", due is " + words(line.due()),
                        Arrays.equals(got, line.due()) ? 1 : 0, 1);
            }
            done.add(line.text());
        }
        check.due(sentence + ": more than " + MOST_CALLS + " calls", done.size() > MOST_CALLS ? 1 : 0, 0);
    }

    /** Each of the calls, made alone behind those before, answers what is due, and changes nothing. */
    void changesNothing(String sentence, String before, String calls) {
        run(sentence, before);
        for (Line call : parse(calls)) {
            run(sentence, before + "\n" + call.text());
            for (List<Line> after : AFTERWARDS) {
                List<String> without = story(parse(before), null, after);
                List<String> with = story(parse(before), call, after);
                for (int i = 0; i < without.size(); i++) {
                    boolean same = without.get(i).equals(with.get(i));
                    check.due(same ? "" : sentence + " | " + before + " | " + call.text() + " made "
                            + without.get(i) + " to " + with.get(i), same ? 1 : 0, 1);
                }
            }
        }
    }

    void end() {
        check.end();
    }

    // ---- the text of a run

    private static List<Line> parse(String calls) {
        List<Line> lines = new ArrayList<>();
        for (String row : calls.split("\n")) {
            for (String piece : row.replaceAll("#.*", "").split(";")) {
                if (!piece.isBlank()) {
                    lines.add(line(piece.strip()));
                }
            }
        }
        return lines;
    }

    private static Line line(String text) {
        Matcher matcher = CALL.matcher(text);
        if (!matcher.matches()) {
            throw new IllegalArgumentException("no call: " + text);
        }
        int[] due = matcher.group(3) == null ? null : numbers(matcher.group(3), "\\s+");
        return new Line(text, matcher.group(1), numbers(matcher.group(2), ","), due);
    }

    private static int[] numbers(String text, String between) {
        return Arrays.stream(text.split(between)).map(String::strip).filter(t -> !t.isEmpty())
                .mapToInt(Runs::number).toArray();
    }

    private static int number(String word) {
        return switch (word) {
            case "BAD" -> Check.BAD;
            case "NO" -> Check.NO;
            case "FULL" -> Check.FULL;
            case "NONE" -> Check.NONE;
            default -> Integer.parseInt(word);
        };
    }

    private static String words(int[] answers) {
        StringBuilder text = new StringBuilder();
        for (int answer : answers) {
            text.append(text.length() == 0 ? "" : " ").append(switch (answer) {
                case Check.BAD -> "BAD";
                case Check.NO -> "NO";
                case Check.FULL -> "FULL";
                case Check.NONE -> "NONE";
                default -> "" + answer;
            });
        }
        return text.toString();
    }

    private static String allShares() {
        StringBuilder text = new StringBuilder();
        for (int window = 0; window < 10; window++) {
            text.append("share(%1$d, 0, 50); share(%1$d, 1, 50);".formatted(window));
        }
        return text.toString();
    }

    // ---- the calls

    private static boolean isRefusal(int answer) {
        return answer == Check.BAD || answer == Check.NO || answer == Check.FULL;
    }

    private static int[] answer(WindowDesk desk, Line line) {
        int[] a = line.args();
        return switch (line.name()) {
            case "box" -> Check.area(desk, a[0]);
            case "leaf" -> Check.leaf(desk, a[0], a[1]);
            case "focusRow" -> Check.focusRow(desk);
            case "stack" -> Check.stack(desk);
            default -> new int[] {call(desk, line.name() + a.length, a)};
        };
    }

    private static int call(WindowDesk desk, String name, int[] a) {
        return switch (name) {
            case "screen3" -> desk.screen(a[0], a[1], a[2]);
            case "gone1" -> desk.gone(a[0]);
            case "open4" -> desk.open(a[0], a[1], a[2], a[3]);
            case "close1" -> desk.close(a[0]);
            case "focus1" -> desk.focus(a[0]);
            case "back0" -> desk.back();
            case "toward1" -> desk.toward(a[0]);
            case "steps2" -> desk.steps(a[0], a[1]);
            case "drag3" -> desk.drag(a[0], a[1], a[2]);
            case "move3" -> desk.move(a[0], a[1], a[2]);
            case "share3" -> desk.share(a[0], a[1], a[2]);
            case "area2" -> desk.area(a[0], a[1]);
            case "about2" -> desk.about(a[0], a[1]);
            case "isOf2" -> desk.isOf(a[0], a[1]);
            case "at3" -> desk.at(a[0], a[1], a[2]);
            case "neighbour2" -> desk.neighbour(a[0], a[1]);
            case "told2" -> desk.told(a[0], a[1]);
            case "tab3" -> desk.tab(a[0], a[1], a[2]);
            case "count1" -> desk.count(a[0]);
            default -> throw new IllegalArgumentException("no call " + name);
        };
    }

    // ---- all that can be seen of a desk

    /** The answers of the calls afterwards, and then of every question; of the call in the middle nothing. */
    private static List<String> story(List<Line> before, Line middle, List<Line> after) {
        WindowDesk desk = new WindowDesk();
        before.forEach(line -> answer(desk, line));
        if (middle != null) {
            answer(desk, middle);
        }
        List<String> seen = new ArrayList<>();
        after.forEach(line -> seen.add(line.text() + ": " + words(answer(desk, line))));
        for (int what = 0; what < 6; what++) {
            seen.add("count " + what + ": " + desk.count(what));
        }
        for (int window = 0; window < 10; window++) {
            lookAtWindow(desk, window, seen);
        }
        for (int s = 0; s < 3; s++) {
            lookAtScreen(desk, s, seen);
        }
        return seen;
    }

    private static void lookAtWindow(WindowDesk desk, int window, List<String> seen) {
        seen.add("area of " + window + ": " + words(Check.area(desk, window)));
        for (int what = 0; what < 7; what++) {
            seen.add("about " + window + ", " + what + ": " + desk.about(window, what));
        }
    }

    /** As many rows whatever there is, so that two stories have equal length. */
    private static void lookAtScreen(WindowDesk desk, int s, List<String> seen) {
        for (int what = 0; what < 7; what++) {
            seen.add("told " + s + ", " + what + ": " + desk.told(s, what));
        }
        for (int i = 0; i < 10; i++) {
            seen.add("leaf " + i + " of " + s + ": " + words(Check.leaf(desk, s, i)));
        }
    }
}

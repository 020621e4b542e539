import java.util.ArrayList;
import java.util.LinkedHashMap;
import java.util.List;
import java.util.Map;
import java.util.function.Consumer;

/**
 * Tests of single sentences of the document. Each test bears the words of its sentence and has a new object of its
 * own; the chapter, which tells the promise, stands ahead of the tests. What is not as due is told with both.
 */
abstract class Sentences {
    static final int INVALID = Due.INVALID;
    static final int NOT_POSSIBLE = Due.NOT_POSSIBLE;
    static final int LIMIT = Due.LIMIT;
    static final int NOT_FOUND = Due.NOT_FOUND;
    static final int LEAST = Integer.MIN_VALUE;
    static final int MOST = Integer.MAX_VALUE;
    static final int PLANK = 0;
    static final int SCREW = 1;
    static final int FLOAT = 2;

    private static final Map<String, List<String>> TESTED = new LinkedHashMap<>();
    private static String chapter = "";
    private static String words = "";

    /** The tests behind this are of a chapter of the document, told by its title. */
    static void chapter(String title) {
        chapter = title;
        TESTED.putIfAbsent(title, new ArrayList<>());
    }

    /** Makes some calls on a new object; they hold a sentence, or a part of one, told by its words. */
    static void test(String sentence, Consumer<SluiceTurns> calls) {
        words = sentence;
        TESTED.get(chapter).add(sentence);
        try {
            calls.accept(new SluiceTurns());
        } catch (RuntimeException e) {
            Due.holds(place() + "does not throw " + e, false);
        }
    }

    /** The sentences that have a test, by the titles of their chapters. */
    static Map<String, List<String>> tested() {
        return TESTED;
    }

    static void due(long want, long got) {
        Due.is(want == got ? "" : place() + "line " + lineOfTest(), want, got);
    }

    static void dueSame(String want, String got) {
        due(1, want.equals(got) ? 1 : 0);
    }

    private static String place() {
        return "[" + chapter + " | " + words + "] ";
    }

    private static int lineOfTest() {
        return StackWalker.getInstance().walk(frames -> frames
                .filter(frame -> !frame.getClassName().equals("Sentences"))
                .map(StackWalker.StackFrame::getLineNumber).findFirst().orElse(0));
    }

    /** Adds planks, 500 wide and without seepage, that branch off the canal 0. */
    static void planks(SluiceTurns x, int number) {
        for (int i = 0; i < number; i++) {
            x.canal(0, PLANK, 500, 0);
        }
    }

    /** Adds planks, 500 wide and without seepage, each of which branches off the canal ahead of it. */
    static void chain(SluiceTurns x, int number) {
        for (int i = 0; i < number; i++) {
            x.canal(x.count(0) - 1, PLANK, 500, 0);
        }
    }

    /** Adds fields at a canal that want much and take little. */
    static void fields(SluiceTurns x, int canal, int number) {
        for (int i = 0; i < number; i++) {
            x.field(canal, 999, 1, 50);
        }
    }

    /** Lets the crew 2 tend a gate and opens it. */
    static int tendAndOpen(SluiceTurns x, int gate) {
        x.tend(2, gate);
        return x.open(gate);
    }

    /** Runs an hour in which just these gates are open. */
    static int hourWith(SluiceTurns x, int gates, int buckets) {
        x.noTurns();
        x.turn(gates, 1);
        return x.run(1, buckets);
    }

    /** Runs as many hours, without water, as are still to go by until there were so many. */
    static void runUntil(SluiceTurns x, int hours) {
        int gone = x.count(6);
        while (gone < hours) {
            int more = Math.min(100, hours - gone);
            x.run(more, 0);
            gone += more;
        }
    }

    static void write(SluiceTurns x, String text) {
        x.clearText();
        for (int i = 0; i < text.length(); i++) {
            x.type(text.charAt(i));
        }
    }

    static void dueFault(SluiceTurns x, String text, int position, int reason, int cause) {
        write(x, text);
        due(position, x.fault(0));
        due(reason, x.fault(1));
        due(cause, x.fault(2));
    }

    static void dueNoFault(SluiceTurns x, String text) {
        dueFault(x, text, NOT_FOUND, NOT_FOUND, NOT_FOUND);
    }
}

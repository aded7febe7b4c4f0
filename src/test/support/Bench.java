import java.io.IOException;
import java.nio.file.Files;
import java.nio.file.Path;
import java.util.HashSet;
import java.util.List;
import java.util.Set;

/** Where the tests of boundary cases are run: each has the sentence of the document that it would see broken. */
final class Bench {
    static final int NONE = -1;
    static final int MIN = Integer.MIN_VALUE;
    static final int MAX = Integer.MAX_VALUE;

    interface Test {
        void run();
    }

    interface Call {
        int on(Counted x);
    }

    interface Question {
        boolean on(Counted x);
    }

    interface Doing {
        void on(Counted x);
    }

    interface Scene {
        Counted make();
    }

    private static final Set<String> QUOTES = new HashSet<>();
    private static String document = "";
    private static String quote = "";
    private static Counted asked = null;
    private static String call = "";
    private static int tests = 0;
    private static int answers = 0;
    private static int wrong = 0;

    private Bench() {
    }

    /** The document is read so that a test's sentence is known to stand in it. */
    static void open(String[] args) throws IOException {
        Path path = Path.of(args.length > 0 ? args[0] : ".").resolve("../shared/DOC.md");
        document = Files.exists(path) ? plain(Files.readString(path)) : "";
    }

    static String document() {
        return document;
    }

    static void close() {
        System.out.println(tests + " boundary tests, " + answers + " answers, " + wrong + " not as due");
        if (wrong != 0 || tests == 0) {
            System.exit(1);
        }
    }

    static String plain(String text) {
        return text.replaceAll("\\s+", " ");
    }

    /** One boundary case; the sentence is told as it stands in the document. */
    static void test(String sentence, Test body) {
        quote = sentence;
        tests++;
        if (!document.isEmpty() && !document.contains(plain(sentence))) {
            fail("the document has no such sentence");
        }
        if (!QUOTES.add(sentence)) {
            fail("the sentence has a test already");
        }
        try {
            body.run();
        } catch (RuntimeException | StackOverflowError thrown) {
            fail(call + ", or what came behind it, threw " + thrown);
        }
    }

    /** What fails from now on is no sentence's test. */
    static void about(String what) {
        quote = what;
    }

    static void fail(String why) {
        wrong++;
        System.out.println("'" + quote + "': " + why);
    }

    static void latest(Counted x, String told) {
        asked = x;
        call = told;
    }

    static String latestCall() {
        return call;
    }

    static void due(int got, int want) {
        due(call, got, want);
    }

    static void due(String told, int got, int want) {
        answers++;
        if (got != want) {
            fail(told + " answered " + got + ", due is " + want + ", behind\n" + (asked == null ? "" : asked.run()));
        }
    }

    static void due(boolean got, boolean want) {
        due(got ? 1 : 0, want ? 1 : 0);
    }

    static void yes(boolean got) {
        due(got, true);
    }

    static void no(boolean got) {
        due(got, false);
    }

    static void none(int got) {
        due(got, NONE);
    }

    static String times(int n, String text) {
        return text.repeat(n);
    }

    /** Feeds signs 0 to 255 behind what is on the tape, which is empty, with blanks that are cut off again. */
    static void feed(Counted x, String text) {
        for (int from = 0; from < text.length(); from += 20) {
            int[] five = new int[5];
            for (int i = 0; i < 20; i++) {
                int sign = from + i < text.length() ? text.charAt(from + i) : ' ';
                five[i / 4] = five[i / 4] << 8 | sign & 255;
            }
            x.feed(five[0], five[1], five[2], five[3], five[4]);
        }
        yes(x.end(text.length()));
    }

    static int tell(Counted x, int k, String text) {
        feed(x, text);
        return x.text(k);
    }

    /** A text that is taken. */
    static void good(Counted x, int k, String text, int lines) {
        due(tell(x, k, text), lines);
        due(x.fault(0), 0);
        none(x.fault(1));
    }

    /** A text with a fault. */
    static void bad(Counted x, int k, String text, int fault, int place) {
        none(tell(x, k, text));
        due(x.fault(0), fault);
        due(x.fault(1), place);
    }

    /** A call that is refused answers so, and two objects alike, of which one had it, are alike in all that can be seen. */
    static void refused(Scene scene, int answer, Call... calls) {
        List<String> without = Probe.all(scene.make());
        for (Call c : calls) {
            Counted x = scene.make();
            due(c.on(x), answer);
            String refusedCall = call;
            alike(refusedCall, without, Probe.all(x));
        }
    }

    static void refused(Scene scene, Question... questions) {
        for (Question q : questions) {
            refused(scene, 0, x -> q.on(x) ? 1 : 0);
        }
    }

    /** Calls that answer and leave everything as it was. */
    static void leaves(Scene scene, Doing... calls) {
        List<String> without = Probe.all(scene.make());
        for (Doing c : calls) {
            Counted x = scene.make();
            c.on(x);
            String asking = call;
            alike(asking, without, Probe.all(x));
        }
    }

    /** As refused, but for the tape and fault(), which a text() changes whatever it answers. */
    static void refusedText(Scene scene, Call... calls) {
        List<String> without = Probe.butTape(scene.make());
        for (Call c : calls) {
            Counted x = scene.make();
            none(c.on(x));
            String refusedCall = call;
            alike(refusedCall, without, Probe.butTape(x));
        }
    }

    private static void alike(String leaving, List<String> without, List<String> with) {
        answers++;
        if (!without.equals(with)) {
            int i = 0;
            while (i < without.size() && i < with.size() && without.get(i).equals(with.get(i))) {
                i++;
            }
            fail(leaving + " is seen afterwards: " + (i < with.size() ? with.get(i) : "fewer answers")
                    + " where it is " + (i < without.size() ? without.get(i) : "nothing") + " without it");
        }
    }
}

import java.io.IOException;
import java.nio.file.Files;
import java.nio.file.Path;
import java.util.ArrayList;
import java.util.List;
import java.util.Set;
import java.util.regex.Matcher;
import java.util.regex.Pattern;

/**
 * Boundary cases, sentence by sentence. A test names the sentence of the document that it is of, which must stand
 * there; in the end each place of the document with a word that tells of a boundary must lie within such a sentence.
 *
 * Each call whose answer is looked at here and that must change nothing (it asks, or it is refused) is also held
 * against a twin: an object with the same calls but this one. Both must answer all the calls of PROBE alike.
 */
final class Edges implements Answers {
    private static final int MOST_CALLS = 512;
    private static final Set<String> ASKING = Set.of(
        "of", "told", "on", "full", "best", "had", "can", "odds", "mean", "ends", "looked", "judge", "trace", "taken",
        "count", "read");
    private static final List<String> PROBE = probe();
    private static final Pattern MARKS = Pattern.compile(
        "\\.\\. ?\\d|at most|at first|modulo|\\bnone\\b|\\bNONE\\b|\\bBAD\\b|\\bSTATE\\b|\\bFULL\\b|\\bNOTHING\\b"
        + "|\\bCAST\\b|\\bPLACE\\b|\\bSIZE\\b|\\bNO\\b|-5|-10|-1001|below 0|behind 9|beyond|above|too early|without"
        + "|wrapping|empty|last one|of several|lowest terms|cut toward|no such|are kept|multiple|1 to 10|digits"
        + "|no TRACE|within 4|stays|nothing|not matter|each alike|is both|a is b|another|the first|the same|least|most"
        + "|fewest|how few|AT HOME, too|all 0|lowest bits|further|ahead of|is not 0|either|newest|latest|or fewer"
        + "|or more|100|from the left|till it");

    private final Expect expect = new Expect();
    private final String doc;
    private final boolean[] quoted;
    private final List<String> made = new ArrayList<>();
    private PunchedSouls souls = new PunchedSouls();
    private String sentence = "";
    private int askedOfIt = 1;

    /** root: where the project stands, beside ../shared. */
    Edges(String root) throws IOException {
        Path file = Path.of(root, "..", "shared", "DOC.md");
        if (!Files.isReadable(file)) {
            System.out.println("there is no " + file + ": whether the sentences stand there is not looked at");
        }
        doc = Files.isReadable(file) ? plain(Files.readString(file)) : "";
        quoted = new boolean[doc.length()];
    }

    private static String plain(String text) {
        return text.replaceAll("\\s+", " ");
    }

    // ---- sentences

    void promise(int number, String words) {
        begin("promise " + number, words, "## Promise " + number + ":", "## ");
    }

    void terms(String words) {
        begin("terms", words, "## Terms", "## Promise 1:");
    }

    void head(String words) {
        begin("head", words, "# PunchedSouls", "## Terms");
    }

    private void begin(String part, String words, String heading, String next) {
        endSentence();
        sentence = part + " '" + words + "'";
        expect.part(sentence);
        askedOfIt = 0;
        anew();
        int from = doc.indexOf(heading);
        int to = doc.indexOf(next, from + heading.length());
        int at = doc.indexOf(plain(words), from);
        boolean stands = from >= 0 && at >= 0 && at + words.length() <= to;
        expect.holds("the sentence stands in the document", stands || doc.isEmpty());
        for (int i = at; stands && i < at + words.length(); i++) {
            quoted[i] = true;
        }
    }

    private void endSentence() {
        expect.holds(sentence + " has a test", askedOfIt > 0);
    }

    void end() {
        endSentence();
        expect.part("the document");
        int from = doc.indexOf("## Terms");
        int to = doc.indexOf("## Not promised");
        Matcher marks = MARKS.matcher(doc);
        while (marks.find()) {
            if (marks.start() < from || marks.end() > to || isAside(marks.start())) continue;
            boolean all = true;
            for (int i = marks.start(); i < marks.end(); i++) all &= quoted[i];
            String around = doc.substring(Math.max(from, marks.start() - 40), Math.min(to, marks.end() + 40));
            expect.holds("'" + marks.group() + "' in '.." + around + "..' is in a sentence that has a test", all);
        }
        expect.end();
    }

    /** Headings, and what the interface says ahead of calls, promise nothing. */
    private boolean isAside(int at) {
        int heading = doc.lastIndexOf("## Promise", at);
        boolean inHeading = heading >= 0 && doc.indexOf('`', heading) > at;
        int ahead = doc.lastIndexOf("Ahead of the calls", at);
        boolean inAhead = ahead >= 0 && doc.indexOf("Promise 1:", ahead) > at;
        return inHeading || inAhead;
    }

    // ---- runs of calls

    void anew() {
        souls = new PunchedSouls();
        made.clear();
    }

    /** Calls that lead up to what is tested; none of them may be refused. */
    void make(String... calls) {
        for (String call : calls) {
            long answer = next(call);
            if (answer < 0 && !Calls.name(call).equals("act")) {
                expect.holds(call + " leads up to a test, but answered " + answer, false);
            }
        }
    }

    /** Workers of these kinds, each with its number as its v. */
    void workers(int... kinds) {
        for (int i = 0; i < kinds.length; i++) {
            make("worker(" + kinds[i] + ", " + i + ")");
        }
    }

    void text(String text) {
        for (char sign : text.toCharArray()) {
            make("feed(" + (int) sign + ")");
        }
    }

    void works(String text) {
        text(text);
        make("works()");
    }

    /** The texts of a new object: what works() answers. */
    void worksOf(String text, long due) {
        anew();
        text(text);
        is("works()", due, " of " + text);
    }

    /** Days, 60 at a time. */
    void days(int n) {
        for (int left = n; left > 0; left -= 60) {
            make("pass(" + Math.min(60, left) + ")");
        }
    }

    void is(String call, long due) {
        is(call, due, "");
    }

    /** What the last of made is asked alone, without a twin. */
    void isAlone(String call, long due) {
        askedOfIt++;
        expect.is(call, due, next(call));
    }

    private void is(String call, long due, String more) {
        askedOfIt++;
        List<String> before = new ArrayList<>(made);
        long got = next(call);
        expect.is(call + more, due, got);
        if (ASKING.contains(Calls.name(call)) || isRefused(call, got)) {
            holdAgainstTwin(before, call);
        }
    }

    private static boolean isRefused(String call, long answer) {
        String name = Calls.name(call);
        if (name.equals("works")) return answer == FULL;
        return answer < 0 && !name.equals("act");
    }

    private long next(String call) {
        made.add(call);
        return Calls.answer(souls, call);
    }

    private void holdAgainstTwin(List<String> before, String call) {
        PunchedSouls one = new PunchedSouls();
        PunchedSouls twin = new PunchedSouls();
        for (String earlier : before) {
            Calls.answer(one, earlier);
            Calls.answer(twin, earlier);
        }
        Calls.answer(one, call);
        int calls = before.size() + 1 + PROBE.size();
        expect.holds(call + " and what is asked behind it are " + calls + " calls", calls <= MOST_CALLS);
        for (String asked : PROBE) {
            long due = Calls.answer(twin, asked);
            expect.is(asked + " behind " + call + ", which changes nothing,", due, Calls.answer(one, asked));
        }
    }

    /** Calls by which all that an object holds comes to light, that which lies under THE IMAGE last. */
    private static List<String> probe() {
        List<String> calls = new ArrayList<>();
        numbered(calls, "count(%d)", 0, 6);
        numbered(calls, "told(%d)", 0, 6);
        numbered(calls, "told(%d)", 10, 15);
        for (int p = 0; p < 6; p++) {
            numbered(calls, "of(" + p + ", %d)", 0, 6);
            calls.add("of(" + p + ", 10)");
            calls.add("of(" + p + ", 15)");
        }
        calls.add("on(7, 0)");
        numbered(calls, "on(7, %d)", 10, 15);
        numbered(calls, "on(7, %d)", 20, 25);
        calls.add("best(0)");
        numbered(calls, "had(%d)", 0, 5);
        numbered(calls, "can(%d, 0)", 0, 5);
        calls.addAll(List.of("odds(5, 20, 0)", "mean(5, 0)", "ends(0)", "ends(1)", "looked()"));
        numbered(calls, "trace(%d)", 0, 11);
        for (int tape = 0; tape < 6; tape++) {
            calls.add("judge(" + tape + ", 0)");
            numbered(calls, "read(" + tape + ", %d)", 0, 4);
            calls.add("read(" + tape + ", 59)");
            // A number that each sort keeps otherwise.
            calls.add("item(" + tape + ", 0, -6148914691236517206)");
            calls.add("read(" + tape + ", 0)");
        }
        for (int p = 0; p < 6; p++) {
            numbered(calls, "row(" + p + ", %d, 5)", 0, 3);
        }
        calls.addAll(List.of("works()", "told(1)", "told(3)", "count(1)", "feed(48)", "undo()"));
        probeAgain(calls);
        return calls;
    }

    private static void probeAgain(List<String> calls) {
        numbered(calls, "count(%d)", 0, 4);
        numbered(calls, "told(%d)", 0, 3);
        numbered(calls, "told(%d)", 10, 15);
        for (int p = 0; p < 6; p++) {
            numbered(calls, "of(" + p + ", %d)", 0, 3);
            calls.add("row(" + p + ", 0, 5)");
        }
        calls.addAll(List.of("had(0)", "can(0, 0)", "ends(0)", "ends(1)", "looked()"));
    }

    private static void numbered(List<String> calls, String form, int from, int to) {
        for (int i = from; i <= to; i++) {
            calls.add(String.format(form, i));
        }
    }
}

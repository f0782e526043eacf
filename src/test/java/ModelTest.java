import java.util.Random;

/** Runs of calls, drawn from fixed seeds, that the class and the Model must answer alike. */
public final class ModelTest {
    private static final int RUNS = 600;
    private static final int CALLS = 512;
    private static final int[] ODD = {
        Integer.MIN_VALUE, Integer.MIN_VALUE + 9, -100, -21, -3, -2, -1, 7, 8, 9, 10, 11, 61, 99, 100, 101, 1023, 1024,
        Integer.MAX_VALUE - 3, Integer.MAX_VALUE
    };

    private static final String SIGNS = "gladsourn 0123456789;pckvhd<=>!()&|qQ\u0000\u007f";

    private final Random random;
    private final PunchedSouls souls = new PunchedSouls();
    private final Model model = new Model();
    private final Expect expect;
    private final int wrongness;
    private int calls;

    private ModelTest(Expect expect, int run) {
        this.expect = expect;
        random = new Random(run);
        wrongness = new int[] {0, 3, 10, 30}[run % 4];
    }

    public static void main(String[] args) {
        Expect expect = new Expect();
        for (int run = 0; run < RUNS && !expect.isWrong(); run++) {
            expect.part("run " + run);
            new ModelTest(expect, run).run();
        }
        for (int run = 0; run < RUNS && !expect.isWrong(); run++) {
            expect.part("texts " + run);
            texts(expect, new Random(run));
        }
        expect.end();
    }

    /** Whole texts, right, cut and spoilt, each read by a new object. */
    private static void texts(Expect expect, Random random) {
        for (int i = 0; i < 40; i++) {
            PunchedSouls souls = new PunchedSouls();
            Model model = new Model();
            String text = spoilt(random, clauses(random, 100));
            for (char c : text.toCharArray()) {
                souls.feed(c);
                model.feed(c);
            }
            souls.worker(4, 3);
            model.worker(4, 3);
            souls.worker(3, 8);
            model.worker(3, 8);
            expect.is("works of " + text, model.works(), souls.works());
            for (int day = 0; day < 4; day++) {
                expect.is("temper by " + text, model.told(3), souls.told(3));
                expect.is("temper by " + text, model.of(1, 10), souls.of(1, 10));
                expect.is("round by " + text, model.told(1), souls.told(1));
                model.pass(1);
                souls.pass(1);
            }
        }
    }

    private static String spoilt(Random random, String text) {
        int how = random.nextInt(4);
        if (how == 0) return text;
        int at = random.nextInt(text.length());
        if (how == 1) return text.substring(0, at);
        String sign = String.valueOf(SIGNS.charAt(random.nextInt(SIGNS.length())));
        return text.substring(0, at) + sign + text.substring(how == 2 ? at : at + 1);
    }

    private static String clauses(Random random, int most) {
        StringBuilder text = new StringBuilder();
        int clauses = 1 + random.nextInt(11);
        for (int i = 0; i < clauses; i++) {
            String clause = clause(random);
            if (text.length() + clause.length() + 1 > most) break;
            if (i > 0) text.append(';');
            text.append(clause);
        }
        return text.length() == 0 ? "round 7" : text.toString();
    }

    private static String clause(Random random) {
        int n = random.nextInt(random.nextBoolean() ? 10 : 100);
        switch (random.nextInt(5)) {
            case 0: return "round " + random.nextInt(random.nextBoolean() ? 5 : 100);
            case 1: case 2: return "glad " + n + " " + either(random, 0);
            default: return "sour " + n + " " + either(random, 0);
        }
    }

    private static String either(Random random, int within) {
        StringBuilder text = new StringBuilder(factor(random, within));
        while (random.nextInt(3) == 0) {
            text.append(random.nextBoolean() ? '&' : '|').append(factor(random, within));
        }
        return text.toString();
    }

    private static String factor(Random random, int within) {
        // Now and then one too deep.
        if (within < 4 || random.nextInt(20) == 0 && within < 6) {
            int how = random.nextInt(5);
            if (how == 0) return "!" + factor(random, within + 1);
            if (how == 1) return "(" + either(random, within + 1) + ")";
        }
        return "pckvhd".charAt(random.nextInt(6)) + "" + "<=>".charAt(random.nextInt(3))
            + random.nextInt(random.nextInt(4) == 0 ? 100 : 7);
    }

    private void run() {
        int workers = random.nextInt(7);
        if (random.nextInt(8) > 0) {
            for (int i = 0; i < workers; i++) same("worker", random.nextInt(7), random.nextInt(10));
        }
        if (random.nextInt(3) > 0) tellWorks();
        while (calls < CALLS - 120 && !expect.isWrong()) {
            step();
        }
        askAll();
    }

    /** One of 0 .. below - 1, or, as often as the run is wrong, any other. */
    private int number(int below) {
        if (below <= 0 || random.nextInt(100) < wrongness) {
            return random.nextBoolean() ? ODD[random.nextInt(ODD.length)] : random.nextInt(30) - 5;
        }
        return random.nextInt(below);
    }

    private int soul() {
        return number(model.now.size());
    }

    private int what(int... parts) {
        int part = parts[random.nextInt(parts.length)];
        return part < 0 ? -part + soul() : number(part);
    }

    private void tellWorks() {
        String text = clauses(random, 60);
        if (random.nextInt(4) == 0) text = spoilt(random, text);
        for (char c : text.toCharArray()) same("feed", c);
        same("works");
    }

    /** How it will truly be, mostly, so that SEEN is met now and then. */
    private void see() {
        int card = soul();
        int n = number(21);
        int holes = number(1024);
        if (model.is(card) && n >= 0 && n <= 20 && random.nextInt(5) > 0) {
            Model.World world = model.now;
            int p = random.nextInt(model.now.size());
            int q = random.nextInt(model.now.size());
            if (random.nextInt(3) == 0) world = world.swapped(p, q);
            holes = world.days(n).bits(card);
        }
        same("see", card, holes, n);
    }

    private void bookRow() {
        int card = soul();
        int holes = number(1024);
        if (model.is(card) && random.nextInt(6) > 0) holes = model.now.bits(card);
        same("book", card, holes);
    }

    private void tellTape() {
        int tape = random.nextInt(6);
        int length = model.now.size() + random.nextInt(4);
        int from = random.nextInt(3);
        same("tape", tape, 1, Math.min(60, length));
        for (int c = 0; c < model.now.size(); c++) {
            same("item", tape, from + c, random.nextInt(12) == 0 ? random.nextLong() : model.now.bits(c));
        }
        same("judge", tape, from);
    }

    private void step() {
        switch (random.nextInt(38)) {
            case 0: same("worker", number(7), number(10)); break;
            case 1: case 2: same("of", soul(), what(7, -10)); break;
            case 3: same("set", soul(), number(1024)); break;
            case 4: case 5: same("swap", soul(), soul()); break;
            case 6: same("stay", soul(), random.nextInt(2)); break;
            case 7: case 8: same("row", soul(), number(4), number(10)); break;
            case 9: if (calls < 300) tellWorks(); break;
            case 10: same("feed", number(128)); break;
            case 11: same("told", what(7, -10)); break;
            case 12: case 13: same("pass", random.nextInt(6) == 0 ? number(61) : number(5)); break;
            case 14: case 15: same("on", number(61), what(1, -10, -20)); break;
            case 16: same("full", soul(), number(11)); break;
            case 17: same("best", what(1, -10)); break;
            case 18: see(); break;
            case 19: if (random.nextInt(4) == 0) same("see", -1, number(9), number(9)); break;
            case 20: same("had", soul()); break;
            case 21: same("can", soul(), number(2)); break;
            case 22: same("odds", number(random.nextBoolean() ? 61 : 12), number(61), number(2)); break;
            case 23: same("mean", number(61), number(2)); break;
            case 24: case 25: planRow(); break;
            case 26: if (random.nextInt(4) == 0) same("plan", -1, number(9)); break;
            case 27: same("ends", number(2)); break;
            case 28: bookRow(); same("looked"); break;
            case 29: if (random.nextInt(3) == 0) same("book", -1, number(9)); break;
            case 30: same("judge", number(6), number(9)); break;
            case 31: if (random.nextInt(3) == 0) same("image"); break;
            case 32: if (random.nextInt(3) == 0) same("undo"); break;
            case 33: actAndTrace(); break;
            case 34: same("taken", soul(), number(7)); same("count", number(7)); break;
            case 35: tapeStep(); tapeStep(); tapeStep(); break;
            case 36: tellTape(); break;
            default: same("works"); break;
        }
    }

    private void planRow() {
        int what = number(4);
        int n = what == 1 ? 10 * soul() + soul() : soul();
        same("plan", what, n);
    }

    private void actAndTrace() {
        same("act", soul(), number(3), random.nextBoolean() ? random.nextInt() : random.nextInt(20));
        same("count", 6);
        for (int i = -1; i < 13; i++) if (random.nextInt(3) == 0) same("trace", i);
    }

    private void tapeStep() {
        int tape = number(6);
        switch (random.nextInt(6)) {
            case 0: same("tape", tape, random.nextInt(6) - 1, random.nextInt(5) == 0 ? number(61) : number(9)); break;
            case 1: same("item", tape, number(9), random.nextBoolean() ? random.nextLong() : random.nextInt(3)); break;
            case 2: same("read", tape, number(9)); break;
            case 3: same("shift", tape, number(5), tape, number(5), number(6)); break;
            default: same("shift", tape, number(5), number(6), number(5), number(5)); break;
        }
    }

    private void askAll() {
        for (int what = 0; what < 7; what++) {
            same("told", what);
            same("count", what);
        }
        for (int p = 0; p < model.now.size(); p++) {
            for (int what = 0; what < 7; what++) same("of", p, what);
            same("of", p, 10 + random.nextInt(model.now.size()));
            same("told", 10 + p);
            same("best", 10 + p);
            same("had", p);
        }
        for (int tape = 0; tape < 6; tape++) same("read", tape, random.nextInt(4));
    }

    private void same(String call, long... a) {
        calls++;
        StringBuilder words = new StringBuilder(call).append('(');
        for (int i = 0; i < a.length; i++) words.append(i == 0 ? "" : ", ").append(a[i]);
        expect.is(words.append(") as call ").append(calls).toString(), ofModel(call, a), ofSouls(call, a));
    }

    private static int i(long[] a, int at) {
        return (int) a[at];
    }

    private long ofModel(String call, long[] a) {
        switch (call) {
            case "worker": return model.worker(i(a, 0), i(a, 1));
            case "of": return model.of(i(a, 0), i(a, 1));
            case "set": return model.set(i(a, 0), i(a, 1));
            case "swap": return model.swap(i(a, 0), i(a, 1));
            case "stay": return model.stay(i(a, 0), a[1] != 0);
            case "row": return model.row(i(a, 0), i(a, 1), i(a, 2));
            case "feed": return model.feed(i(a, 0));
            case "works": return model.works();
            case "told": return model.told(i(a, 0));
            case "pass": return model.pass(i(a, 0));
            case "on": return model.on(i(a, 0), i(a, 1));
            case "full": return model.full(i(a, 0), i(a, 1));
            case "best": return model.best(i(a, 0));
            case "see": return model.see(i(a, 0), i(a, 1), i(a, 2));
            case "had": return model.had(i(a, 0));
            case "can": return model.can(i(a, 0), i(a, 1));
            case "odds": return model.odds(i(a, 0), i(a, 1), i(a, 2));
            case "mean": return model.mean(i(a, 0), i(a, 1));
            case "plan": return model.plan(i(a, 0), i(a, 1));
            case "ends": return model.ends(i(a, 0));
            case "book": return model.book(i(a, 0), i(a, 1));
            case "looked": return model.looked();
            case "judge": return model.judge(i(a, 0), i(a, 1));
            case "image": return model.image();
            case "undo": return model.undo();
            case "act": return model.act(i(a, 0), i(a, 1), i(a, 2));
            case "trace": return model.trace(i(a, 0));
            case "taken": return model.taken(i(a, 0), i(a, 1));
            case "count": return model.count(i(a, 0));
            case "tape": return model.tape(i(a, 0), i(a, 1), i(a, 2));
            case "item": return model.item(i(a, 0), i(a, 1), a[2]);
            case "read": return model.read(i(a, 0), i(a, 1));
            case "shift": return model.shift(i(a, 0), i(a, 1), i(a, 2), i(a, 3), i(a, 4));
            default: throw new IllegalArgumentException(call);
        }
    }

    private long ofSouls(String call, long[] a) {
        switch (call) {
            case "worker": return souls.worker(i(a, 0), i(a, 1));
            case "of": return souls.of(i(a, 0), i(a, 1));
            case "set": return souls.set(i(a, 0), i(a, 1));
            case "swap": return souls.swap(i(a, 0), i(a, 1));
            case "stay": return souls.stay(i(a, 0), a[1] != 0);
            case "row": return souls.row(i(a, 0), i(a, 1), i(a, 2));
            case "feed": return souls.feed(i(a, 0));
            case "works": return souls.works();
            case "told": return souls.told(i(a, 0));
            case "pass": return souls.pass(i(a, 0));
            case "on": return souls.on(i(a, 0), i(a, 1));
            case "full": return souls.full(i(a, 0), i(a, 1));
            case "best": return souls.best(i(a, 0));
            case "see": return souls.see(i(a, 0), i(a, 1), i(a, 2));
            case "had": return souls.had(i(a, 0));
            case "can": return souls.can(i(a, 0), i(a, 1));
            case "odds": return souls.odds(i(a, 0), i(a, 1), i(a, 2));
            case "mean": return souls.mean(i(a, 0), i(a, 1));
            case "plan": return souls.plan(i(a, 0), i(a, 1));
            case "ends": return souls.ends(i(a, 0));
            case "book": return souls.book(i(a, 0), i(a, 1));
            case "looked": return souls.looked();
            case "judge": return souls.judge(i(a, 0), i(a, 1));
            case "image": return souls.image();
            case "undo": return souls.undo();
            case "act": return souls.act(i(a, 0), i(a, 1), i(a, 2));
            case "trace": return souls.trace(i(a, 0));
            case "taken": return souls.taken(i(a, 0), i(a, 1));
            case "count": return souls.count(i(a, 0));
            case "tape": return souls.tape(i(a, 0), i(a, 1), i(a, 2));
            case "item": return souls.item(i(a, 0), i(a, 1), a[2]);
            case "read": return souls.read(i(a, 0), i(a, 1));
            case "shift": return souls.shift(i(a, 0), i(a, 1), i(a, 2), i(a, 3), i(a, 4));
            default: throw new IllegalArgumentException(call);
        }
    }
}

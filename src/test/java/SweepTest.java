import java.util.ArrayList;
import java.util.List;

/**
 * Every call with every choice of numbers at, behind and far behind a boundary, in states that are empty, between and
 * full, answered by the class and by the Model alike; and what the call has changed, too.
 */
public final class SweepTest {
    private static final Expect expect = new Expect();
    private static final String[] MANY = {
        "least", "-11", "-2", "-1", "0", "1", "2", "3", "4", "5", "6", "7", "9", "10", "11", "12", "15", "16", "19", "20",
        "21", "22", "25", "26", "32", "54", "55", "59", "60", "61", "66", "100", "127", "128", "1023", "1024", "most"};
    private static final String[] SOME = {"least", "-1", "0", "1", "2", "3", "4", "9", "10", "20", "21", "60", "61", "most"};
    private static final String[] FEW = {"least", "-1", "0", "1", "2", "3", "6", "most"};
    private static final String[] BOTH = {"true", "false"};

    private final List<String> state;
    private final boolean isSmall;

    private SweepTest(boolean isSmall, String... state) {
        this.state = List.of(state);
        this.isSmall = isSmall;
    }

    public static void main(String[] args) {
        new SweepTest(true).sweep();
        new SweepTest(true, between()).sweep();
        new SweepTest(false, full()).sweep();
        expect.end();
    }

    private static String[] between() {
        List<String> calls = new ArrayList<>(List.of(
            "worker(6, 4)", "worker(5, 9)", "worker(0, 0)", "swap(0, 1)", "stay(2, true)", "set(1, 40)", "row(0, 1, 9)",
            "see(1, 40, 0)", "plan(1, 20)", "book(1, 40)", "tape(0, 2, 3)", "item(0, 1, 7)", "tape(1, 2, 2)",
            "tape(2, 1, 3)", "tape(3, 4, 60)", "act(0, 2, 1)", "image()", "pass(2)", "worker(2, 3)"));
        text(calls, "sour 3 v>3;round 3");
        calls.add("works()");
        text(calls, "round 2");
        return calls.toArray(new String[0]);
    }

    private static String[] full() {
        List<String> calls = new ArrayList<>();
        for (int i = 0; i < 6; i++) {
            calls.add("worker(" + (i + 1) + ", " + i + ")");
            text(calls, "round 9");
            calls.add("works()");
        }
        for (int i = 0; i < 5; i++) calls.add("see(0, 0, 0)");
        for (int i = 0; i < 10; i++) calls.add("plan(1, 5)");
        for (int i = 0; i < 8; i++) calls.add("book(5, 0)");
        for (int i = 0; i < 6; i++) calls.add("tape(" + i + ", 1, 60)");
        text(calls, "x".repeat(100));
        return calls.toArray(new String[0]);
    }

    private static void text(List<String> calls, String text) {
        for (char sign : text.toCharArray()) calls.add("feed(" + (int) sign + ")");
    }

    private void sweep() {
        expect.part("state of " + state.size() + " calls");
        for (String call : new String[] {"of", "on", "full", "can", "mean", "judge", "taken", "read"}) {
            ask(call, MANY, MANY);
        }
        for (String call : new String[] {"told", "best", "had", "ends", "trace", "count"}) ask(call, MANY);
        ask("looked");
        ask("odds", SOME, SOME, SOME);
        for (String call : new String[] {"worker", "set", "swap", "plan", "book"}) change(call, MANY, MANY);
        for (String call : new String[] {"feed", "pass"}) change(call, MANY);
        for (String call : new String[] {"works", "image", "undo"}) change(call);
        change("stay", MANY, BOTH);
        for (String call : new String[] {"row", "see", "act", "tape", "item"}) {
            if (isSmall) change(call, SOME, SOME, SOME);
            else change(call, FEW, FEW, FEW);
        }
        if (isSmall) change("shift", FEW, FEW, FEW, FEW, FEW);
    }

    private void ask(String name, String[]... choices) {
        PunchedSouls souls = new PunchedSouls();
        Model model = new Model();
        lead(souls, model);
        for (String call : all(name, choices)) {
            expect.is(call, Calls.answer(model, call), Calls.answer(souls, call));
        }
        compare(souls, model, name);
    }

    /** A call that is refused leaves the two for the next one; behind any other they are made anew. */
    private void change(String name, String[]... choices) {
        PunchedSouls souls = new PunchedSouls();
        Model model = new Model();
        lead(souls, model);
        for (String call : all(name, choices)) {
            long due = Calls.answer(model, call);
            expect.is(call, due, Calls.answer(souls, call));
            if (due < 0 && due >= -14 && !name.equals("works") && !name.equals("act")) continue;
            compare(souls, model, call);
            souls = new PunchedSouls();
            model = new Model();
            lead(souls, model);
        }
        compare(souls, model, name);
    }

    private void lead(PunchedSouls souls, Model model) {
        for (String call : state) {
            Calls.answer(souls, call);
            Calls.answer(model, call);
        }
    }

    private static void compare(PunchedSouls souls, Model model, String behind) {
        for (String call : new String[] {
            "count(0)", "count(1)", "count(2)", "count(3)", "count(4)", "count(5)", "count(6)", "told(0)", "told(1)",
            "told(2)", "told(3)", "told(10)", "told(11)", "told(15)", "of(0, 3)", "of(1, 2)", "of(2, 3)", "of(3, 1)",
            "ends(0)", "looked()", "trace(1)", "read(0, 1)", "read(1, 1)", "read(2, 2)"}) {
            expect.is(call + " behind " + behind, Calls.answer(model, call), Calls.answer(souls, call));
        }
    }

    private static List<String> all(String name, String[]... choices) {
        List<String> calls = new ArrayList<>(List.of(name + "("));
        for (int i = 0; i < choices.length; i++) {
            List<String> longer = new ArrayList<>();
            for (String start : calls) {
                for (String word : choices[i]) longer.add(start + (i == 0 ? "" : ", ") + word);
            }
            calls = longer;
        }
        calls.replaceAll(call -> call + ")");
        return calls;
    }
}

/** Boundary cases of THE IMAGE, ACTS and counts: promises 25 to 30, and what the Terms say of them. */
final class EdgesOfActs implements Answers {
    private static final String MOST = "most", LEAST = "least";
    private static final int GREATEST = Integer.MAX_VALUE, SMALLEST = Integer.MIN_VALUE;

    private final Edges e;

    EdgesOfActs(Edges edges) {
        e = edges;
    }

    void ask() {
        theImage();
        image();
        undo();
        wrapping();
        bodies();
        fromTheLeft();
        theTrace();
        act();
        trace();
        taken();
        count();
    }

    private void theImage() {
        e.terms("THE IMAGE: WORKERS with all that is theirs, CARDS, DAY, SEEN, the PLAN, the BOOK, which WORKS holds.");
        e.make("worker(6, 9)", "worker(2, 8)", "row(0, 1, 7)", "stay(1, true)", "set(0, 5)", "set(1, 1023)",
            "swap(0, 1)", "pass(1)", "see(0, 5, 0)", "plan(1, 10)", "book(1, 1023)");
        e.works("round 9;glad 5 p=1");
        e.make("image()");
        e.make("worker(0, 0)", "row(0, 1, 1)", "stay(0, true)", "stay(1, false)", "set(0, 0)", "set(1, 0)",
            "swap(0, 2)", "pass(60)", "see(1, 0, 0)", "plan(0, 0)", "book(0, 0)");
        e.works("sour 5 p=1");
        e.is("undo()", 2);
        e.is("count(0)", 2);
        e.is("of(0, 0)", 6);
        e.is("of(0, 1)", 9);
        e.is("of(0, 2)", 0);
        e.is("of(1, 2)", 1);
        e.is("of(0, 3)", 1);
        e.is("of(1, 3)", 0);
        e.is("told(10)", 5);
        e.is("told(11)", 1023);
        e.is("told(12)", NO_NUMBER);
        e.is("told(0)", 1);
        e.is("count(2)", 1);
        e.is("had(0)", 3);
        e.is("count(3)", 1);
        // By the PLAN each HAS its own: the half of 8, and 5.
        e.is("ends(1)", 4 + 5);
        e.is("count(4)", 1);
        e.is("looked()", NOT);
        e.is("told(1)", 9);
        e.is("of(1, 11)", 5);
        e.is("of(0, 6)", 1 << 7);
        e.is("row(0, 1, 7)", 7);
        rowsAreInIt();
        theRestIsNotInIt();
    }

    /** SEEN, the PLAN and the BOOK are told anew behind THE IMAGE, as long as they were, but otherwise. */
    private void rowsAreInIt() {
        e.anew();
        e.workers(0, 2);
        e.make("see(0, 1, 1)", "see(1, 6, 2)", "plan(1, 1)", "plan(0, 0)", "plan(2, 1)", "book(0, 0)", "book(1, 0)");
        e.is("had(0)", 1);
        e.is("can(1, 0)", 1);
        // HAND with CARD 1, LAD with CARD 0, one HOLE in each.
        e.is("ends(1)", 9 + 10);
        e.is("looked()", NOT);
        e.make("image()", "see(-1, 0, 0)", "see(1, 0, 0)", "see(1, 2, 1)", "plan(-1, 0)", "plan(2, 0)", "plan(2, 1)",
            "plan(0, 0)", "book(-1, 0)", "book(1, 0)", "book(0, 9)");
        e.is("had(0)", 1);
        e.is("can(1, 0)", 1);
        e.is("ends(1)", 20);
        e.is("looked()", 1);
        e.make("set(1, 1)");
        e.is("looked()", 0);
        e.is("undo()", 2);
        e.is("had(0)", 1);
        e.is("can(1, 0)", 1);
        e.is("can(0, 0)", 10);
        e.is("ends(0)", 2);
        e.is("ends(1)", 19);
        e.is("looked()", NOT);
        e.make("set(0, 8)");
        e.is("looked()", 0);
        e.is("had(0)", 0);
        e.make("set(0, 0)", "set(1, 8)");
        e.is("looked()", 1);
        e.is("had(0)", 0);
        e.is("undo()", 2);
        e.make("pass(1)", "set(0, 0)", "set(1, 4)");
        // From DAY 1 on: HAND slots 1, 2, LAD 2, 3: CARD 0 is not 1 behind 1, nor would it be by another.
        e.is("had(0)", 0);
    }

    private void theRestIsNotInIt() {
        e.anew();
        e.workers(0, 3);
        e.text("roun");
        e.make("tape(0, 2, 2)", "act(0, 0, 1)", "image()", "tape(1, 1, 1)", "item(0, 1, 44)", "act(1, 2, 1)");
        e.text("d 6");
        e.is("undo()", 2);
        e.is("count(5)", 7);
        e.is("read(0, 1)", 44);
        e.is("read(1, 0)", 0);
        e.is("count(6)", 6);
        e.is("trace(0)", 40);
        e.is("works()", 0);
        e.is("told(1)", 6);
        e.is("undo()", 2);
        // None held when it was taken, though there is one.
        e.is("told(1)", 0);
        e.is("count(1)", 1);
    }

    private void image() {
        e.promise(25, "THE IMAGE is taken: how many WORKERS there are.");
        e.is("image()", 0);
        e.workers(0, 0, 0, 0, 0, 0);
        e.is("undo()", 0);
        e.is("count(0)", 0);
        e.workers(0, 0, 0, 0, 0, 0);
        e.is("image()", 6);
        e.make("pass(5)");
        e.is("image()", 6);
        e.make("pass(5)");
        e.is("undo()", 6);
        e.is("told(0)", 5);
    }

    private void undo() {
        e.promise(26, "All is as THE IMAGE: how many WORKERS.");
        e.workers(0);
        e.make("image()");
        e.is("undo()", 1);
        e.make("pass(3)", "worker(6, 1)", "row(1, 0, 9)", "stay(1, true)", "set(1, 99)", "swap(0, 1)");
        e.is("undo()", 1);
        e.is("told(0)", 0);
        // THE IMAGE is there still, and a new WORKER has nothing of the one that is gone.
        e.make("pass(4)");
        e.is("undo()", 1);
        e.is("told(0)", 0);
        e.is("told(10)", 0);
        e.is("worker(6, 2)", 1);
        e.is("of(1, 1)", 2);
        e.is("of(1, 2)", 0);
        e.is("of(1, 3)", 1);
        e.is("of(0, 3)", 0);
        e.is("told(11)", 0);
        e.is("of(1, 6)", 1);
        e.is("row(1, 0, 0)", 0);
        e.promise(26, "STATE: there is none.");
        e.is("undo()", STATE);
        e.workers(0);
        e.make("pass(3)");
        e.is("undo()", STATE);
        e.is("told(0)", 3);
        e.make("image()");
        e.is("undo()", 1);
    }

    /** What act answers, and the bodies that ran. */
    private void act(String call, long due, int... bodies) {
        e.is(call, due);
        e.is("count(6)", bodies.length);
        for (int i = 0; i < bodies.length; i++) {
            e.is("trace(" + i + ")", bodies[i]);
        }
        e.is("trace(" + bodies.length + ")", NONE);
    }

    private void wrapping() {
        e.terms("ACTS of a WORKER with x (wrapping): 0 toils, 1 minds, 2 tells; i its number.");
        e.make("worker(0, 9)", "worker(0, 9)", "worker(2, 0)", "worker(4, 0)", "worker(5, 0)", "worker(3, 9)");
        // 10: x + i
        e.is("act(0, 0, " + MOST + ")", GREATEST);
        e.is("act(1, 0, " + MOST + ")", SMALLEST);
        // 11: toils(x) - v
        e.is("act(0, 1, " + LEAST + ")", GREATEST - 8);
        e.is("act(1, 1, " + LEAST + ")", GREATEST - 7);
        // 12: minds(x) * 2, with 2^30 and v 9
        e.is("act(0, 2, 1073741833)", SMALLEST);
        e.is("act(0, 2, 1073741832)", GREATEST - 1);
        // 30: x * 3, thrice 715827883 is 2^31 and 1
        e.is("act(2, 0, 715827883)", SMALLEST + 3);
        e.is("act(2, 0, " + LEAST + ")", SMALLEST + 2);
        // 50: less nothing but itself is the least number
        e.is("act(3, 0, 2147483645)", SMALLEST);
        // 51: x + 1, then -(least + i), of which ^ 6 changes the lowest bits: GREATEST - 2 ends with the bits 01
        e.is("act(3, 1, " + MOST + ")", (GREATEST - 2) ^ 6);
        // 60: x - i: least - 4 is GREATEST - 3; thrice that, 4 more, is GREATEST - 7 and twice that -16
        e.is("act(4, 2, " + LEAST + ")", -16);
        // 40: tells and minds(1): (least + 5 - 9) * 2 is -8, and 1 + 5 - 9
        e.is("act(5, 2, " + LEAST + ")", -11);
    }

    private void bodies() {
        e.terms("toils(..) and so on: the body of its KIND, or, if that has none, of the next KIND above that has one; "
            + "super.toils(..): so from the KIND above the body's on; all that stands in a body is done from the left "
            + "on.");
        for (int kind = 0; kind < 6; kind++) {
            e.make("worker(" + kind + ", " + (kind + 1) + ")");
        }
        act("act(0, 0, 7)", 7, 10);
        act("act(0, 1, 7)", 6, 11, 10);
        act("act(0, 2, 7)", 12, 12, 11, 10);
        act("act(1, 0, 7)", 8, 10);
        act("act(1, 1, 7)", 6 ^ 6, 20, 11, 10);
        act("act(1, 2, 9)", (8 ^ 6) * 2, 12, 20, 11, 10);
        act("act(2, 0, 7)", 23, 30, 10);
        act("act(2, 1, 7)", 20, 11, 30, 10);
        act("act(2, 2, 7)", 40, 12, 11, 30, 10);
        act("act(3, 0, 7)", 10, 10);
        act("act(3, 1, 7)", 6, 11, 10);
        act("act(3, 2, 9)", 16, 40, 12, 11, 10, 11, 10);
        act("act(4, 0, 7)", -11, 50, 10);
        act("act(4, 1, 7)", -17 ^ 6, 51, 20, 11, 50, 10);
        act("act(4, 2, 7)", (-17 ^ 6) * 2, 12, 51, 20, 11, 50, 10);
        act("act(5, 0, 7)", 26, 30, 10);
        act("act(5, 1, 7)", 20, 11, 30, 10);
        act("act(5, 2, 7)", 10, 60, 12, 11, 30, 10);
    }

    private void fromTheLeft() {
        e.terms("all that stands in a body is done from the left on.");
        e.make("worker(0, 0)", "worker(6, 9)");
        act("act(1, 0, 7)", 8 ^ 9, 71, 10);
        // 70: HAND's minds, whose toils is 71, then HAND's toils(2)
        act("act(1, 1, 7)", (8 ^ 9) - 9 + 3, 70, 11, 71, 10, 10);
        // 40: HAND's tells, whose minds is 70, then minds(1)
        act("act(1, 2, 7)", ((8 ^ 9) - 6) * 2 + (2 ^ 9) - 6, 40, 12, 70, 11, 71, 10, 10, 70, 11, 71, 10, 10);
    }

    private void theTrace() {
        e.terms("THE TRACE: the numbers of the bodies that ran in the latest act(), as they began; "
            + "the first 20 are kept.");
        e.is("count(6)", 0);
        e.is("trace(0)", NONE);
        e.make("worker(6, 0)", "worker(0, 0)", "act(0, 2, 0)");
        // No act has more bodies than this one, so all are kept.
        e.is("count(6)", 12);
        e.is("trace(0)", 40);
        e.is("trace(11)", 10);
        e.is("trace(12)", NONE);
        e.make("act(1, 0, 0)");
        e.is("count(6)", 1);
        e.is("trace(0)", 10);
        e.is("trace(1)", NONE);
    }

    private void act() {
        e.promise(27, "An ACT (0 toils, 1 minds, 2 tells) of a WORKER with x. 0, and no TRACE then: "
            + "no such WORKER, act.");
        e.make("worker(0, 1)", "worker(2, 5)");
        act("act(1, 0, 1)", 4, 30, 10);
        act("act(1, 1, 1)", -1, 11, 30, 10);
        act("act(1, 2, 1)", -2, 12, 11, 30, 10);
        for (String call : new String[] {
            "act(-1, 0, 5)", "act(2, 0, 5)", "act(least, 0, 5)", "act(most, 0, 5)", "act(1, -1, 5)", "act(1, 3, 5)",
            "act(1, least, 5)", "act(1, most, 5)", "act(2, 3, 5)"}) {
            act("act(1, 2, 1)", -2, 12, 11, 30, 10);
            act(call, 0);
        }
    }

    private void trace() {
        e.promise(28, "THE TRACE's i-th body. NONE.");
        e.is("trace(0)", NONE);
        e.make("worker(0, 0)", "act(0, 1, 0)");
        e.is("trace(-1)", NONE);
        e.is("trace(0)", 11);
        e.is("trace(1)", 10);
        e.is("trace(2)", NONE);
        e.is("trace(20)", NONE);
        e.is("trace(least)", NONE);
        e.is("trace(most)", NONE);
    }

    private void taken() {
        e.promise(29, "A WORKER taken for one of KIND k (0 .. 6), or one under that: its KIND.");
        e.workers(0, 1, 2, 3, 4, 5);
        int[] above = {-1, 0, 0, 0, 1, 2, 3};
        for (int kind = 0; kind < 6; kind++) {
            for (int k = 0; k < 7; k++) {
                boolean isUnder = k == kind || k == 0 || k == above[kind];
                e.is("taken(" + kind + ", " + k + ")", isUnder ? kind : CAST);
            }
        }
        e.anew();
        e.workers(6);
        for (int k = 0; k < 7; k++) {
            e.is("taken(0, " + k + ")", k == 0 || k == 3 || k == 6 ? 6 : CAST);
        }
        e.promise(29, "BAD: k; NOTHING: no such WORKER; CAST.");
        e.workers(0, 0);
        e.is("taken(0, -1)", BAD);
        e.is("taken(0, 7)", BAD);
        e.is("taken(2, 7)", BAD);
        e.is("taken(2, least)", BAD);
        e.is("taken(-1, 0)", NOTHING);
        e.is("taken(2, 0)", NOTHING);
        e.is("taken(most, 6)", NOTHING);
        e.is("taken(1, 1)", CAST);
        e.is("taken(1, 6)", CAST);
    }

    private void count() {
        e.promise(30, "How many: 0 WORKERS, 1 WORKS, 2 SEEN, 3 of the PLAN, 4 of the BOOK, 5 bytes of THE TEXT, "
            + "6 bodies that ran in the latest act().");
        for (int what = 0; what <= 6; what++) {
            e.is("count(" + what + ")", 0);
        }
        e.workers(0, 0, 0, 0, 0, 0);
        e.is("count(0)", 6);
        for (int i = 1; i <= 6; i++) {
            e.works("round 1");
            e.is("count(1)", i);
        }
        for (int i = 1; i <= 5; i++) {
            e.make("see(0, 0, 0)");
        }
        e.is("count(2)", 5);
        for (int i = 1; i <= 10; i++) {
            e.make("plan(0, 0)");
        }
        e.is("count(3)", 10);
        for (int i = 1; i <= 8; i++) {
            e.make("book(0, 0)");
        }
        e.is("count(4)", 8);
        e.text("x".repeat(100));
        e.is("count(5)", 100);
        e.make("act(0, 2, 0)");
        e.is("count(6)", 3);
        e.promise(30, "BAD.");
        e.is("count(-1)", BAD);
        e.is("count(7)", BAD);
        e.is("count(10)", BAD);
        e.is("count(least)", BAD);
        e.is("count(most)", BAD);
    }
}

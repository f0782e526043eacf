/** Boundary cases that are of all calls: what is answered first, what changes nothing, how many calls there are. */
final class EdgesOfAnswers implements Answers {
    private final Edges e;

    EdgesOfAnswers(Edges edges) {
        e = edges;
    }

    void ask() {
        order();
        orderOfFull();
        orderOfTapes();
        belowZero();
        refusedChangesNothing();
        askedChangesNothing();
        constants();
        calls();
    }

    private void order() {
        e.terms("Answers: NONE (-1) no such number; BAD (-2) a number is not as told; STATE (-3) as told; FULL (-4); "
            + "the first that a call's words name.");
        e.workers(0, 3);
        e.is("worker(7, 10)", -1);
        e.is("worker(0, 10)", -2);
        e.is("set(2, 1024)", -1);
        e.is("set(0, 1024)", -2);
        e.is("swap(2, 2)", -1);
        e.is("swap(0, 0)", -2);
        e.is("row(2, 0, 10)", -1);
        e.is("row(1, 4, 10)", -1);
        e.is("row(1, 0, 10)", -2);
        e.is("row(1, 0, 9)", -3);
        e.is("on(61, 5)", -1);
        e.is("full(2, 11)", -1);
        e.is("see(2, 1024, 21)", -1);
        e.is("book(2, 1024)", -1);
        e.is("plan(1, 22)", -1);
        e.is("plan(1, 11)", -2);
        e.is("taken(2, 7)", -2);
        e.is("undo()", -3);
        e.days(9999);
        e.is("pass(61)", -2);
        e.is("pass(60)", -3);
    }

    private void orderOfFull() {
        full();
        e.is("worker(7, 10)", NONE);
        e.is("worker(7, 0)", NONE);
        e.is("worker(0, 10)", BAD);
        e.is("worker(0, 0)", FULL);
        e.is("see(6, 1024, 21)", NONE);
        e.is("see(6, 0, 0)", NONE);
        e.is("see(0, 1024, 0)", BAD);
        e.is("see(0, 0, 21)", BAD);
        e.is("see(0, 0, 0)", FULL);
        e.is("plan(4, 0)", NONE);
        e.is("plan(1, 66)", NONE);
        e.is("plan(2, 6)", NONE);
        e.is("plan(1, 55)", BAD);
        e.is("plan(1, 54)", FULL);
        e.is("book(6, 1024)", NONE);
        e.is("book(0, 1024)", BAD);
        e.is("book(0, 0)", FULL);
        e.is("feed(128)", BAD);
        e.is("feed(0)", FULL);
        e.is("works()", FULL);
    }

    private void orderOfTapes() {
        e.anew();
        e.make("tape(1, 2, 2)", "tape(2, 3, 2)");
        e.is("tape(6, 5, -1)", NONE);
        e.is("tape(0, 5, -1)", BAD);
        e.is("tape(0, 4, -1)", SIZE);
        e.is("item(6, -1, 0)", NONE);
        e.is("item(0, -1, 0)", NOTHING);
        e.is("item(1, -1, 0)", PLACE);
        e.is("shift(0, -1, 6, -1, -1)", NONE);
        e.is("shift(0, -1, 1, -1, -1)", NOTHING);
        e.is("shift(2, -1, 1, -1, -1)", CAST);
        e.is("shift(1, -1, 1, -1, -1)", PLACE);
        e.is("judge(6, -1)", NONE);
        e.is("judge(1, -1)", CAST);
    }

    private void belowZero() {
        e.terms("Where it may be below 0, -1001 stands for NONE.");
        e.workers(0);
        e.works("sour 11 p=0;sour 99 p>9");
        e.is("of(0, 5)", -1);
        e.is("of(0, 10)", -1);
        e.is("of(0, 11)", -1001);
        e.is("of(1, 0)", -1001);
        e.is("told(3)", -1);
        e.is("told(11)", -1001);
        e.is("best(0)", -1);
        e.is("best(11)", -1001);
        e.is("ends(1)", -1);
        e.is("ends(2)", -1001);
    }

    /** All that is limited stands at its limit: THE TEXT, WORKERS, WORKS, SEEN, the PLAN and the BOOK. */
    private void full() {
        e.anew();
        e.workers(6, 5, 4, 3, 2, 0);
        for (int i = 1; i <= 6; i++) {
            e.works("round " + i);
        }
        e.make("swap(0, 3)", "stay(2, true)", "set(4, 341)", "row(0, 2, 6)");
        for (int i = 1; i <= 5; i++) {
            e.make("see(4, 341, 0)");
        }
        for (int i = 1; i <= 10; i++) {
            e.make("plan(0, 0)");
        }
        for (int i = 1; i <= 8; i++) {
            e.make("book(4, " + (i == 8 ? 0 : 341) + ")");
        }
        e.text("x".repeat(100));
    }

    /** Something of everything, and THE IMAGE of another state under it. */
    private void busy() {
        e.anew();
        e.workers(6, 5, 3, 1, 2);
        e.make("swap(1, 4)", "stay(3, true)", "set(2, 7)", "row(0, 1, 3)", "see(2, 7, 0)", "plan(2, 1)", "book(2, 6)");
        e.works("glad 9 v=2;round 7");
        e.make("image()", "swap(0, 4)", "stay(3, false)", "stay(0, true)", "set(1, 512)", "row(0, 2, 8)", "pass(3)");
        e.works("glad 3 p<2|d=3;sour 5 k=2;round 4");
        e.make("see(0, 0, 0)", "plan(1, 21)", "plan(0, 0)", "book(1, 512)");
        e.make("act(0, 2, 5)", "tape(0, 1, 5)", "item(0, 1, 300)", "tape(1, 3, 60)", "item(1, 59, 5)", "tape(2, 4, 2)");
        e.make("item(2, 1, 1)", "tape(3, 1, 3)", "item(3, 2, 9)");
        e.text("round 8");
    }

    private void refusedChangesNothing() {
        e.terms("What is answered so changes nothing");
        String[] none = {
            "worker(7, 0)", "set(5, 3)", "swap(0, 5)", "swap(5, 0)", "stay(5, true)", "row(5, 0, 1)", "row(0, 4, 1)",
            "see(5, 0, 0)", "plan(4, 0)", "plan(1, 15)", "plan(2, 5)", "plan(3, 5)", "book(5, 0)", "tape(6, 0, 4)",
            "item(6, 0, 4)", "shift(0, 0, 6, 0, 1)", "shift(6, 0, 0, 0, 1)"};
        String[] bad = {
            "worker(0, 10)", "set(1, 1024)", "swap(1, 1)", "row(0, 0, 10)", "feed(128)", "pass(61)", "see(0, 1024, 0)",
            "see(0, 0, 21)", "plan(1, 22)", "book(0, 1024)", "tape(0, 5, 4)", "tape(0, 1, 61)"};
        String[] place = {
            "item(0, 5, 7)", "item(0, -1, 7)", "shift(0, 0, 3, 1, 3)", "shift(0, 3, 3, 0, 3)", "shift(0, 0, 3, -1, 1)"};
        busy();
        all(NONE, none);
        all(BAD, bad);
        all(PLACE, place);
        all(STATE, "row(1, 0, 1)", "row(2, 0, 1)");
        all(NOTHING, "item(4, 0, 1)", "shift(0, 0, 4, 0, 1)");
        all(CAST, "shift(0, 0, 1, 0, 1)", "shift(2, 0, 0, 0, 1)");
        all(SIZE, "tape(0, 1, -1)", "tape(5, 1, -1)");
        full();
        all(FULL, "worker(6, 9)", "feed(120)", "works()", "see(0, 0, 0)", "plan(0, 0)", "book(0, 0)");
        e.anew();
        e.workers(0, 1);
        all(STATE, "undo()");
        e.days(9990);
        all(STATE, "pass(10)", "pass(60)");
    }

    private void all(int due, String... calls) {
        for (String call : calls) {
            e.is(call, due);
        }
    }

    private void askedChangesNothing() {
        e.terms("what is asked changes nothing.");
        busy();
        // 0 is AT HOME; 0 HAS 1, 1 HAS 4, 2 HAS 2, 3 HAS 3, 4 HAS 0.
        e.is("of(0, 4)", 3);
        e.is("of(0, 6)", 1);
        e.is("told(5)", 4);
        e.is("on(60, 0)", 50);
        e.is("on(1, 20)", 4);
        // CARD 3 has SLOTS 1, 2; by 2 come 0, 3, 4, 5, by 1 come 9, 6, 7, and 8 when 2 HAS it again, on DAY 24.
        e.is("full(3, 10)", 22);
        e.is("had(3)", 0);
        e.is("can(2, 1)", NOT);
        // There are 15 HOLES; by DAY 3 come those of 1, 2 and 4, of whom one may be AT HOME.
        e.is("odds(1, 17, 0)", 3);
        e.is("odds(1, 17, 1)", 5);
        e.is("mean(60, 1)", 1);
        e.is("ends(2)", NO_NUMBER);
        e.is("looked()", 0);
        e.is("judge(3, 0)", 0);
        e.is("trace(0)", 40);
        e.is("taken(0, 3)", 6);
        e.is("count(5)", 7);
        e.is("read(0, 1)", 300);
        e.is("best(9)", NO_NUMBER);
        e.anew();
        e.workers(0, 0);
        e.make("image()", "worker(0, 0)", "worker(0, 0)", "worker(0, 0)", "worker(0, 0)");
        e.is("best(0)", 60);
        e.is("best(15)", 5);
        e.is("undo()", 2);
        e.is("best(0)", 20);
        e.is("best(11)", 1);
    }

    private void constants() {
        e.terms("The constants: `NO = Long.MIN_VALUE`: There is no such number.");
        e.is("mean(0, 0)", PunchedSouls.NO);
        e.is("read(0, 0)", Long.MIN_VALUE);
        e.is("worker(7, 0)", PunchedSouls.NONE);
        e.is("worker(0, 10)", PunchedSouls.BAD);
        e.is("undo()", PunchedSouls.STATE);
        e.workers(0, 0, 0, 0, 0, 0);
        e.is("worker(0, 0)", PunchedSouls.FULL);
    }

    private void calls() {
        e.head("An object is used for at most 512 calls after it has been made; what later calls answer is free.");
        e.workers(0);
        for (int i = 2; i <= 510; i++) {
            e.make("count(0)");
        }
        e.isAlone("pass(3)", 3);
        e.isAlone("on(2, 10)", 31);
    }
}

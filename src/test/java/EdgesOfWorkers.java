/** Boundary cases of WORKERS and CARDS: the first of the Terms, promises 1 to 7. */
final class EdgesOfWorkers implements Answers {
    private final Edges e;

    EdgesOfWorkers(Edges edges) {
        e = edges;
    }

    void ask() {
        kinds();
        atFirst();
        newObject();
        worker();
        ofPlain();
        ofRefused();
        set();
        swap();
        stay();
        row();
    }

    private void kinds() {
        e.terms("5, as they come, are of KINDS: 0 HAND; 1 LATE, 2 LAD, 3 OLD under HAND; 4 BLINKER under LATE; "
            + "5 MINDER under LAD; 6 TOLD under OLD");
        for (int i = 0; i <= 5; i++) {
            e.is("worker(" + i + ", 0)", i);
            e.is("of(" + i + ", 0)", i);
        }
        e.is("worker(0, 0)", FULL);
        e.is("of(6, 0)", NO_NUMBER);
        e.anew();
        e.is("worker(-1, 0)", NONE);
        e.is("worker(6, 0)", 0);
        e.is("of(0, 0)", 6);
        e.is("worker(7, 0)", NONE);
        e.terms("with a number v (0 .. 9)");
        e.is("worker(0, -1)", BAD);
        e.is("worker(2, 0)", 0);
        e.is("of(0, 1)", 0);
        e.is("worker(2, 9)", 1);
        e.is("of(1, 1)", 9);
        e.is("worker(2, 10)", BAD);
        e.is("worker(2, least)", BAD);
        e.is("worker(2, most)", BAD);
    }

    private void atFirst() {
        e.terms("AT HOME, or not (not at first)");
        e.workers(0);
        e.is("of(0, 2)", 0);
        e.is("stay(0, true)", 0);
        e.is("of(0, 2)", 1);
        e.make("worker(0, 0)");
        e.is("of(1, 2)", 0);
        e.make("pass(1)");
        e.is("told(10)", 0);
        e.is("told(11)", 1);
        e.terms("its HOLES at SLOTS 0 .. 9 are told as bits (0 .. 1023; 0 at first)");
        e.workers(0);
        e.is("told(10)", 0);
        e.make("pass(1)");
        e.is("told(10)", 1);
        e.make("stay(0, true)", "pass(8)", "stay(0, false)", "pass(1)");
        e.is("told(10)", 1 + 512);
        e.is("set(0, 1023)", 513);
        e.is("told(10)", 1023);
        e.is("set(0, 1024)", BAD);
        e.is("set(0, 0)", 1023);
        e.is("set(0, -1)", BAD);
        e.is("told(10)", 0);
        e.terms("Each WORKER HAS one CARD, no two the same (its own at first)");
        e.workers(0, 1, 2, 3, 4, 5);
        e.is("of(0, 3)", 0);
        e.is("of(5, 3)", 5);
        e.make("swap(0, 5)", "swap(5, 2)", "swap(2, 1)");
        int[] cards = {5, 0, 1, 3, 4, 2};
        for (int p = 0; p < 6; p++) {
            e.is("of(" + p + ", 3)", cards[p]);
        }
        e.anew();
        e.workers(0, 0);
        e.make("swap(0, 1)");
        e.is("worker(0, 0)", 2);
        e.is("of(2, 3)", 2);
        e.terms("DAY: 0 at first");
        e.is("told(0)", 0);
        e.is("pass(0)", 0);
        e.is("pass(1)", 1);
    }

    private void newObject() {
        e.promise(1, "No WORKERS, no WORKS.");
        e.is("count(0)", 0);
        e.is("count(1)", 0);
        for (int what = 0; what <= 4; what++) {
            e.is("told(" + what + ")", 0);
        }
        e.is("told(5)", NOT);
        e.is("told(6)", NOT);
        e.is("told(10)", NO_NUMBER);
        e.is("of(0, 0)", NO_NUMBER);
        e.is("set(0, 0)", NONE);
        e.is("swap(0, 1)", NONE);
        e.is("stay(0, true)", NONE);
        e.is("row(0, 0, 0)", NONE);
        e.is("on(60, 0)", 0);
        e.is("on(0, 10)", NONE);
        e.is("on(0, 20)", NONE);
        e.is("full(0, 0)", NONE);
        e.is("best(0)", 0);
        e.is("best(10)", NO_NUMBER);
        e.is("see(0, 0, 0)", NONE);
        e.is("had(0)", NONE);
        e.is("can(0, 0)", NONE);
        e.is("plan(2, 0)", NONE);
        e.is("ends(0)", 0);
        e.is("ends(1)", 0);
        e.is("book(0, 0)", NONE);
        e.is("looked()", NOT);
        e.is("taken(0, 0)", NOTHING);
        e.is("undo()", STATE);
        e.is("pass(60)", 60);
        e.is("told(2)", 0);
        e.is("image()", 0);
    }

    private void worker() {
        e.promise(2, "A WORKER: its number.");
        for (int i = 0; i < 6; i++) {
            e.is("worker(" + (6 - i) + ", " + (9 - i) + ")", i);
        }
        e.promise(2, "NONE: kind");
        e.is("worker(-1, 5)", NONE);
        e.is("worker(7, 5)", NONE);
        e.is("worker(least, 5)", NONE);
        e.is("worker(most, 5)", NONE);
        e.is("count(0)", 0);
        e.promise(2, "BAD: v");
        e.is("worker(6, -1)", BAD);
        e.is("worker(6, 10)", BAD);
        e.is("count(0)", 0);
        e.promise(2, "FULL: 6");
        e.workers(0, 0, 0, 0, 0);
        e.make("image()");
        e.is("worker(6, 9)", 5);
        e.is("worker(6, 9)", FULL);
        e.is("count(0)", 6);
        e.is("undo()", 5);
        e.is("worker(1, 8)", 5);
        e.is("worker(1, 8)", FULL);
    }

    private void ofPlain() {
        e.promise(3, "Of a WORKER what 0 KIND, 1 v, 2 whether it is AT HOME, 3 the CARD it HAS, 4 RING, "
            + "5 TEMPER with that, 6 PUNCHES on that on the DAY that comes (AT HOME, too), 10 and c TEMPER with CARD c.");
        e.make("worker(3, 8)", "worker(2, 9)", "set(0, 7)", "set(1, 1)", "swap(0, 1)");
        e.is("of(0, 0)", 3);
        e.is("of(0, 1)", 8);
        e.is("of(0, 2)", 0);
        e.is("of(0, 3)", 1);
        e.is("of(0, 4)", 2);
        e.is("of(0, 5)", 4);
        e.is("of(0, 6)", 2);
        e.is("of(0, 10)", 3);
        e.is("of(0, 11)", 4);
        e.is("of(1, 5)", 16);
        e.is("of(1, 10)", 16);
        e.is("of(1, 11)", 9);
        e.make("stay(0, true)");
        e.is("of(0, 2)", 1);
        e.is("of(0, 6)", 2);
        e.make("set(1, 15)");
        e.is("of(0, 6)", 16);
    }

    private void ofRefused() {
        e.promise(3, "-1001: NONE.");
        e.workers(0, 1, 2);
        e.is("of(-1, 0)", NO_NUMBER);
        e.is("of(3, 0)", NO_NUMBER);
        e.is("of(least, 0)", NO_NUMBER);
        e.is("of(most, 0)", NO_NUMBER);
        e.is("of(2, -1)", NO_NUMBER);
        e.is("of(2, 7)", NO_NUMBER);
        e.is("of(2, 8)", NO_NUMBER);
        e.is("of(2, 9)", NO_NUMBER);
        e.is("of(2, 12)", 10);
        e.is("of(2, 13)", NO_NUMBER);
        e.is("of(2, least)", NO_NUMBER);
        e.is("of(2, most)", NO_NUMBER);
        e.anew();
        e.workers(0, 0, 0, 0, 0, 0);
        e.is("of(5, 15)", 10);
        e.is("of(5, 16)", NO_NUMBER);
    }

    private void set() {
        e.promise(4, "HOLES of a CARD become bits: what they were.");
        e.workers(0, 0);
        e.make("swap(0, 1)");
        e.is("set(0, 1023)", 0);
        e.is("told(10)", 1023);
        e.is("told(11)", 0);
        e.is("set(0, 0)", 1023);
        e.is("set(0, 512)", 0);
        e.promise(4, "NONE; BAD.");
        e.workers(0, 0);
        e.is("set(-1, 0)", NONE);
        e.is("set(2, 0)", NONE);
        e.is("set(most, 0)", NONE);
        e.is("set(1, -1)", BAD);
        e.is("set(1, 1024)", BAD);
        e.is("set(1, least)", BAD);
        e.is("set(2, 1024)", NONE);
    }

    private void swap() {
        e.promise(5, "Two WORKERS SWAP: what the first HAS then.");
        e.workers(0, 0, 0, 0, 0, 0);
        e.is("swap(0, 5)", 5);
        e.is("swap(4, 0)", 5);
        e.is("swap(5, 4)", 5);
        e.is("of(5, 3)", 5);
        e.is("of(0, 3)", 4);
        e.is("of(4, 3)", 0);
        e.promise(5, "NONE; BAD: one is both.");
        e.workers(0, 0);
        e.is("swap(-1, 0)", NONE);
        e.is("swap(0, -1)", NONE);
        e.is("swap(2, 0)", NONE);
        e.is("swap(0, 2)", NONE);
        e.is("swap(2, 2)", NONE);
        e.is("swap(0, 0)", BAD);
        e.is("swap(1, 1)", BAD);
    }

    private void stay() {
        e.promise(6, "A WORKER is AT HOME, or not: whether it was.");
        e.workers(0, 0);
        e.is("stay(1, false)", 0);
        e.is("stay(1, true)", 0);
        e.is("stay(1, true)", 1);
        e.is("of(1, 2)", 1);
        e.is("of(0, 2)", 0);
        e.is("stay(1, false)", 1);
        e.is("of(1, 2)", 0);
        e.promise(6, "NONE.");
        e.workers(0, 0);
        e.is("stay(-1, true)", NONE);
        e.is("stay(2, true)", NONE);
        e.is("stay(2, false)", NONE);
        e.is("stay(32, true)", NONE);
        e.is("stay(most, true)", NONE);
    }

    private void row() {
        e.promise(7, "The ROW of a TOLD one becomes n (0 .. 9) for DAYS modulo 4 being part: what it was.");
        e.workers(6, 6);
        e.is("row(1, 0, 9)", 0);
        e.is("row(1, 3, 8)", 0);
        e.is("row(1, 0, 0)", 9);
        e.is("row(1, 3, 9)", 8);
        e.is("row(0, 3, 1)", 0);
        e.make("set(1, 1023)", "stay(0, true)", "stay(1, true)");
        e.is("of(1, 6)", 1);
        e.make("pass(3)");
        e.is("of(1, 6)", 512);
        e.make("pass(1)");
        e.is("of(1, 6)", 1);
        e.promise(7, "NONE: worker, part");
        e.workers(6, 6);
        e.is("row(-1, 0, 0)", NONE);
        e.is("row(2, 0, 0)", NONE);
        e.is("row(1, -1, 0)", NONE);
        e.is("row(1, 4, 0)", NONE);
        e.is("row(0, 4, 7)", NONE);
        e.is("row(0, most, 7)", NONE);
        e.promise(7, "BAD");
        e.workers(6, 3);
        e.is("row(0, 0, -1)", BAD);
        e.is("row(0, 3, 10)", BAD);
        e.is("row(1, 0, 10)", BAD);
        e.promise(7, "STATE: another KIND.");
        e.workers(0, 1, 2, 3, 4, 5);
        for (int p = 0; p < 6; p++) {
            e.is("row(" + p + ", 0, 1)", STATE);
        }
    }
}

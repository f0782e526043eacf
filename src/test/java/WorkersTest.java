/** Promises 1 to 7: a new object, worker, of, set, swap, stay, row. */
public final class WorkersTest {
    private static final Expect expect = new Expect();

    public static void main(String[] args) {
        newObject();
        worker();
        ofPlain();
        ofTemper();
        ofPunches();
        set();
        swap();
        stay();
        row();
        expect.end();
    }

    private static void newObject() {
        expect.part("promise 1");
        PunchedSouls x = new PunchedSouls();
        for (int what = 0; what <= 6; what++) {
            expect.is("count(" + what + ")", 0, x.count(what));
        }
        expect.is("told(0)", 0, x.told(0));
        expect.is("told(1)", 0, x.told(1));
        expect.is("told(2)", 0, x.told(2));
        expect.is("told(3)", 0, x.told(3));
        expect.is("of(0, 0)", Runs.NO_NUMBER, x.of(0, 0));
        expect.is("undo()", PunchedSouls.STATE, x.undo());
        for (int tape = 0; tape < 6; tape++) {
            expect.is("item(" + tape + ", 0, 0)", Runs.NOTHING, x.item(tape, 0, 0));
        }
        expect.is("NO", Long.MIN_VALUE, PunchedSouls.NO);
        expect.is("NONE", -1, PunchedSouls.NONE);
        expect.is("BAD", -2, PunchedSouls.BAD);
        expect.is("STATE", -3, PunchedSouls.STATE);
        expect.is("FULL", -4, PunchedSouls.FULL);
        PunchedSouls other = new PunchedSouls();
        other.worker(0, 0);
        expect.is("count(0) beside another object", 0, x.count(0));
    }

    private static void worker() {
        expect.part("promise 2");
        PunchedSouls x = new PunchedSouls();
        expect.is("worker(-1, 0)", -1, x.worker(-1, 0));
        expect.is("worker(7, 0)", -1, x.worker(7, 0));
        expect.is("worker(7, 10)", -1, x.worker(7, 10));
        expect.is("worker(0, -1)", -2, x.worker(0, -1));
        expect.is("worker(6, 10)", -2, x.worker(6, 10));
        expect.is("count(0)", 0, x.count(0));
        for (int i = 0; i < 6; i++) {
            expect.is("worker(" + (6 - i) + ", 9)", i, x.worker(6 - i, 9 - i));
            expect.is("its card", i, x.of(i, 3));
            expect.is("its holes", 0, x.told(10 + i));
            expect.is("at home", 0, x.of(i, 2));
        }
        expect.is("worker(0, 0) with 6", -4, x.worker(0, 0));
        expect.is("worker(9, 0) with 6", -1, x.worker(9, 0));
        expect.is("worker(0, 99) with 6", -2, x.worker(0, 99));
        expect.is("count(0)", 6, x.count(0));
    }

    private static void ofPlain() {
        expect.part("promise 3");
        PunchedSouls x = Runs.souls(6, 5, 4, 3);
        for (int i = 0; i < 4; i++) {
            expect.is("KIND of " + i, 6 - i, x.of(i, 0));
            expect.is("v of " + i, i, x.of(i, 1));
            expect.is("RING of " + i, 1, x.of(i, 4));
        }
        x.swap(0, 1);
        x.swap(1, 3);
        expect.is("RING of 0", 3, x.of(0, 4));
        expect.is("RING of 1", 3, x.of(1, 4));
        expect.is("RING of 2", 1, x.of(2, 4));
        expect.is("RING of 3", 3, x.of(3, 4));
        expect.is("CARD of 0", 1, x.of(0, 3));
        expect.is("CARD of 1", 3, x.of(1, 3));
        expect.is("CARD of 3", 0, x.of(3, 3));
        expect.is("of(0, 7)", -1001, x.of(0, 7));
        expect.is("of(0, 9)", -1001, x.of(0, 9));
        expect.is("of(0, 14)", -1001, x.of(0, 14));
        expect.is("of(0, -1)", -1001, x.of(0, -1));
        expect.is("of(0, least)", -1001, x.of(0, Runs.LEAST));
        expect.is("of(0, most)", -1001, x.of(0, Runs.MOST));
        expect.is("of(-1, 0)", -1001, x.of(-1, 0));
        expect.is("of(4, 0)", -1001, x.of(4, 0));
    }

    private static void ofTemper() {
        expect.part("promise 3, TEMPER");
        PunchedSouls x = new PunchedSouls();
        for (int kind = 0; kind < 6; kind++) {
            x.worker(kind, 7);
        }
        x.set(0, 7);
        int[] withCard0 = {7, 7, 14, 3, 7, 14};
        int[] withOwn = {7, 10, 10, 5, 10, 10};
        for (int p = 0; p < 6; p++) {
            expect.is("TEMPER of " + p + " with 0", withCard0[p], x.of(p, 10));
            expect.is("TEMPER of " + p + " with its own", withOwn[p], x.of(p, 5));
        }
        Runs.works(x, "sour 18 h=3");
        expect.is("HAND, below 0", -11, x.of(0, 10));
        expect.is("OLD, cut toward 0", -5, x.of(3, 10));
        expect.is("LAD, below 0", -4, x.of(2, 10));
        PunchedSouls told = Runs.souls(6);
        told.set(0, 1);
        expect.is("TOLD, the half of 9", 4, told.of(0, 5));
        PunchedSouls swapped = Runs.souls(2, 2);
        swapped.swap(0, 1);
        expect.is("LAD 1 with CARD 0", 11, swapped.of(1, 5));
        expect.is("LAD 0 with v 0", 10, swapped.of(0, 5));
    }

    private static void ofPunches() {
        expect.part("promise 3, PUNCHES");
        PunchedSouls x = new PunchedSouls();
        int[] kinds = {0, 1, 2, 3, 4, 5};
        for (int kind : kinds) {
            x.worker(kind, 8);
            x.stay(kind, true);
        }
        int[] onDay0 = {1, 0, 1 << 8, 1, 0, 1 << 8};
        checkPunches(x, 0, onDay0);
        x.pass(1);
        checkPunches(x, 1, new int[] {2, 2, 1 << 9, 1, 6, 1 << 9});
        x.pass(1);
        checkPunches(x, 2, new int[] {4, 4, 1, 1, 12, 1});
        x.pass(1);
        checkPunches(x, 3, new int[] {8, 0, 2, 1, 0, 2});
        x.pass(16);
        checkPunches(x, 19, new int[] {512, 512, 1 << 7, 1, 513, 1 << 7});
        x.set(3, 0b1011);
        x.set(5, 1 << 7);
        expect.is("OLD, the least without", 4, x.of(3, 6));
        expect.is("MINDER, 5 further", 1 << 2, x.of(5, 6));
        x.set(3, 1023);
        x.set(5, 1 << 7 | 1 << 2);
        expect.is("OLD, all full", 0, x.of(3, 6));
        expect.is("MINDER, a HOLE there too", 1 << 2, x.of(5, 6));
        x.swap(3, 5);
        expect.is("OLD on the CARD it HAS", 1, x.of(3, 6));
        PunchedSouls told = Runs.souls(6);
        told.row(0, 0, 9);
        told.row(0, 1, 0);
        told.row(0, 3, 5);
        expect.is("TOLD at 0", 513, told.of(0, 6));
        told.stay(0, true);
        told.pass(1);
        expect.is("TOLD at 1, twice the same", 1, told.of(0, 6));
        told.pass(2);
        told.set(0, 1023);
        expect.is("TOLD at 3, full", 32, told.of(0, 6));
        told.pass(1);
        expect.is("TOLD at 4", 512, told.of(0, 6));
    }

    private static void checkPunches(PunchedSouls x, int day, int[] due) {
        for (int p = 0; p < due.length; p++) {
            expect.is("PUNCHES of " + p + " on " + day, due[p], x.of(p, 6));
        }
    }

    private static void set() {
        expect.part("promise 4");
        PunchedSouls x = Runs.souls(0, 0);
        expect.is("set(0, 1023)", 0, x.set(0, 1023));
        expect.is("set(0, 5)", 1023, x.set(0, 5));
        expect.is("set(0, 1024)", -2, x.set(0, 1024));
        expect.is("set(0, -1)", -2, x.set(0, -1));
        expect.is("set(2, 0)", -1, x.set(2, 0));
        expect.is("set(-1, 9999)", -1, x.set(-1, 9999));
        expect.is("told(10)", 5, x.told(10));
        expect.is("told(11)", 0, x.told(11));
        x.swap(0, 1);
        expect.is("set(0, 0) is of the CARD, not of who HAS it", 5, x.set(0, 0));
    }

    private static void swap() {
        expect.part("promise 5");
        PunchedSouls x = Runs.souls(0, 1, 2);
        expect.is("swap(0, 0)", -2, x.swap(0, 0));
        expect.is("swap(3, 3)", -1, x.swap(3, 3));
        expect.is("swap(0, 3)", -1, x.swap(0, 3));
        expect.is("swap(-1, 0)", -1, x.swap(-1, 0));
        expect.is("cards", 1012, Runs.cards(x));
        expect.is("swap(0, 2)", 2, x.swap(0, 2));
        expect.is("swap(2, 1)", 1, x.swap(2, 1));
        expect.is("cards", 1201, Runs.cards(x));
        expect.is("worker behind swaps HAS its own", 3, x.of(x.worker(0, 0), 3));
    }

    private static void stay() {
        expect.part("promise 6");
        PunchedSouls x = Runs.souls(0, 0);
        expect.is("stay(1, true)", 0, x.stay(1, true));
        expect.is("stay(1, true)", 1, x.stay(1, true));
        expect.is("of(1, 2)", 1, x.of(1, 2));
        expect.is("of(0, 2)", 0, x.of(0, 2));
        x.pass(2);
        expect.is("CARD 0", 3, x.told(10));
        expect.is("CARD 1", 0, x.told(11));
        expect.is("stay(1, false)", 1, x.stay(1, false));
        expect.is("stay(1, false)", 0, x.stay(1, false));
        x.pass(1);
        expect.is("CARD 1", 4, x.told(11));
        expect.is("stay(2, true)", -1, x.stay(2, true));
        expect.is("stay(-1, false)", -1, x.stay(-1, false));
        x.stay(0, true);
        x.swap(0, 1);
        x.pass(1);
        expect.is("who HAS CARD 0 now is not AT HOME", 7 | 8, x.told(10));
        expect.is("who HAS CARD 1 now is", 4, x.told(11));
    }

    private static void row() {
        expect.part("promise 7");
        PunchedSouls x = Runs.souls(6, 3);
        for (int part = 0; part < 4; part++) {
            expect.is("row(0, " + part + ", n)", 0, x.row(0, part, 9 - part));
        }
        for (int part = 0; part < 4; part++) {
            expect.is("row(0, " + part + ", 0)", 9 - part, x.row(0, part, 0));
        }
        expect.is("row(0, 4, 0)", -1, x.row(0, 4, 0));
        expect.is("row(0, -1, 99)", -1, x.row(0, -1, 99));
        expect.is("row(2, 0, 0)", -1, x.row(2, 0, 0));
        expect.is("row(0, 0, 10)", -2, x.row(0, 0, 10));
        expect.is("row(0, 0, -1)", -2, x.row(0, 0, -1));
        expect.is("row(1, 0, 10)", -2, x.row(1, 0, 10));
        expect.is("row(1, 0, 1)", -3, x.row(1, 0, 1));
        expect.is("row(0, 0, 0)", 0, x.row(0, 0, 0));
    }
}

/** Promises 24 to 30: judge, image, undo, act, trace, taken, count. */
public final class ImageTest {
    private static final Expect expect = new Expect();
    private static final int[] NO_BODY = {};

    public static void main(String[] args) {
        judge();
        image();
        imageLeaves();
        hiredAgain();
        acts();
        wrongActs();
        taken();
        count();
        expect.end();
    }

    private static void judge() {
        expect.part("promise 24");
        PunchedSouls x = new PunchedSouls();
        expect.is("tape -1", -1, x.judge(-1, 0));
        expect.is("tape 6", -1, x.judge(6, 0));
        expect.is("no CARDS, nothing there", -5, x.judge(0, 0));
        expect.is("no CARDS, below 0", -5, x.judge(0, -1));
        x.tape(1, 2, 9);
        expect.is("no CARDS, ints", -12, x.judge(1, 0));
        for (int p = 0; p < 3; p++) {
            x.worker(0, 0);
            x.set(p, 1000 + p);
        }
        for (int sort = 0; sort < 5; sort++) {
            x.tape(1, sort, 9);
            expect.is("sort " + sort, sort == 1 ? 0 : -12, x.judge(1, 0));
            expect.is("sort " + sort + ", below 0", sort == 1 ? 100 : -12, x.judge(1, -1));
        }
        expect.is("nothing there", 100, x.judge(0, 0));
        x.tape(0, 1, 5);
        x.item(0, 1, 1000);
        x.item(0, 2, 1001);
        x.item(0, 3, 1002);
        expect.is("from 1 on", -5, x.judge(0, 1));
        expect.is("from 0 on", 0, x.judge(0, 0));
        x.item(0, 3, 1003);
        expect.is("CARD 2 otherwise", 2, x.judge(0, 1));
        x.item(0, 2, 0);
        expect.is("CARD 1 otherwise", 1, x.judge(0, 1));
        x.item(0, 3, 1000);
        x.item(0, 4, 1001);
        expect.is("ends behind two", 102, x.judge(0, 3));
        x.item(0, 4, 1000);
        expect.is("ends behind one", 101, x.judge(0, 4));
        expect.is("from the end on", 100, x.judge(0, 5));
        expect.is("far behind the end", 100, x.judge(0, Runs.MOST));
        expect.is("far below", 100, x.judge(0, Runs.LEAST));
        expect.is("below 0", 100, x.judge(0, -1));
        x.tape(0, 1, 0);
        expect.is("an empty row", 100, x.judge(0, 0));
        x.tape(0, 1, 3);
        x.tape(0, -1, 0);
        expect.is("nothing there any more", 100, x.judge(0, 0));
    }

    private static void image() {
        expect.part("promises 25, 26");
        PunchedSouls x = Runs.souls(6, 2);
        expect.is("undo() without", -3, x.undo());
        x.row(0, 2, 7);
        x.stay(1, true);
        x.set(1, 77);
        x.swap(0, 1);
        x.pass(3);
        x.see(0, x.on(6, 10), 6);
        x.plan(1, 1);
        x.book(1, 3);
        Runs.works(x, "round 9");
        int holes0 = x.told(10);
        int holes1 = x.told(11);
        expect.is("image()", 2, x.image());
        for (int times = 0; times < 2; times++) {
            x.worker(3, 3);
            x.row(0, 2, 1);
            x.stay(0, true);
            x.stay(1, false);
            x.set(0, 1);
            x.set(1, 2);
            x.swap(0, 2);
            x.pass(8);
            x.see(-1, 0, 0);
            x.see(1, 1, 1);
            x.see(1, 1, 2);
            x.plan(-1, 0);
            x.plan(2, 0);
            x.plan(0, 1);
            x.book(-1, 0);
            x.book(0, holes0);
            x.book(1, holes1);
            Runs.works(x, "glad 1 p=0;round 3");
            expect.is("undo()", 2, x.undo());
            expect.is("WORKERS", 2, x.count(0));
            expect.is("cards", 110, Runs.cards(x));
            expect.is("AT HOME 0", 0, x.of(0, 2));
            expect.is("AT HOME 1", 1, x.of(1, 2));
            expect.is("HOLES of 0", holes0, x.told(10));
            expect.is("HOLES of 1", holes1, x.told(11));
            expect.is("HOLES of 2", -1001, x.told(12));
            expect.is("DAY", 3, x.told(0));
            expect.is("ROUND of the WORKS that held", 9, x.told(1));
            expect.is("SEEN", 1, x.count(2));
            expect.is("PLAN", 1, x.count(3));
            expect.is("BOOK", 1, x.count(4));
            expect.is("BOOK's row", 0, x.looked());
            expect.is("SEEN's row", 10, x.can(1, 0));
            expect.is("TEMPER by the PLAN", x.of(0, 10) + x.of(1, 11), x.ends(1));
            expect.is("ROW", 7, x.row(0, 2, 7));
        }
        expect.is("WORKS stay", 3, x.count(1));
    }

    private static void imageLeaves() {
        PunchedSouls x = new PunchedSouls();
        Runs.feed(x, "round");
        x.tape(0, 0, 3);
        expect.is("image() of none", 0, x.image());
        Runs.feed(x, " 5");
        x.item(0, 1, 44);
        x.tape(1, 3, 2);
        x.worker(0, 3);
        x.act(0, 1, 1);
        expect.is("undo()", 0, x.undo());
        expect.is("THE TEXT stays", 7, x.count(5));
        expect.is("TAPES stay", 44, x.read(0, 1));
        expect.is("TAPES stay", 0, x.read(1, 1));
        expect.is("THE TRACE stays", 10, x.trace(1));
        expect.is("works()", 0, x.works());
        expect.is("ROUND", 5, x.told(1));
        expect.is("undo()", 0, x.undo());
        expect.is("no WORKS held then", 0, x.told(1));
        expect.is("but there is one", 1, x.count(1));
        expect.is("the next number", 1, Runs.works(x, "round 6"));
        expect.is("image() again", 0, x.image());
        Runs.works(x, "round 7");
        expect.is("undo()", 0, x.undo());
        expect.is("the newer image holds", 6, x.told(1));
    }

    private static void hiredAgain() {
        PunchedSouls x = Runs.souls(0);
        x.image();
        x.worker(6, 9);
        x.row(1, 1, 4);
        x.stay(1, true);
        x.set(1, 99);
        x.swap(0, 1);
        x.undo();
        expect.is("a new one", 1, x.worker(6, 2));
        expect.is("its v", 2, x.of(1, 1));
        expect.is("its ROW", 0, x.row(1, 1, 0));
        expect.is("not AT HOME", 0, x.of(1, 2));
        expect.is("no HOLES", 0, x.told(11));
        expect.is("cards", 101, Runs.cards(x));
    }

    private static void act(PunchedSouls x, int worker, int act, int arg, int due, int... bodies) {
        String call = "act(" + worker + ", " + act + ", " + arg + ")";
        expect.is(call, due, x.act(worker, act, arg));
        expect.is("bodies of " + call, bodies.length, x.count(6));
        for (int i = 0; i < bodies.length; i++) {
            expect.is("body " + i + " of " + call, bodies[i], x.trace(i));
        }
        expect.is("trace(-1) behind " + call, -1, x.trace(-1));
        expect.is("trace behind the last of " + call, -1, x.trace(bodies.length));
    }

    private static void acts() {
        expect.part("promises 27, 28");
        PunchedSouls x = new PunchedSouls();
        for (int kind = 0; kind < 6; kind++) {
            x.worker(kind, kind + 1);
        }
        act(x, 0, 0, 7, 7, 10);
        act(x, 0, 1, 7, 6, 11, 10);
        act(x, 0, 2, 7, 12, 12, 11, 10);
        act(x, 1, 0, 7, 8, 10);
        act(x, 1, 1, 7, 6 ^ 6, 20, 11, 10);
        act(x, 1, 2, 9, (8 ^ 6) * 2, 12, 20, 11, 10);
        act(x, 2, 0, 7, 23, 30, 10);
        act(x, 2, 1, 7, 20, 11, 30, 10);
        act(x, 2, 2, 7, 40, 12, 11, 30, 10);
        act(x, 3, 0, 7, 10, 10);
        act(x, 3, 1, 7, 6, 11, 10);
        act(x, 3, 2, 7, 12 + 0, 40, 12, 11, 10, 11, 10);
        act(x, 4, 0, 7, -11, 50, 10);
        act(x, 4, 1, 7, -17 ^ 6, 51, 20, 11, 50, 10);
        act(x, 4, 2, 7, (-17 ^ 6) * 2, 12, 51, 20, 11, 50, 10);
        act(x, 5, 0, 7, 26, 30, 10);
        act(x, 5, 1, 7, 20, 11, 30, 10);
        act(x, 5, 2, 7, (2 * 3 + 5 - 6) * 2, 60, 12, 11, 30, 10);
        PunchedSouls told = Runs.souls(0, 6);
        told.worker(6, 9);
        act(told, 2, 0, 7, 9 ^ 9, 71, 10);
        act(told, 2, 0, 4, 6 ^ 9, 71, 10);
        act(told, 2, 1, 4, (6 ^ 9) - 9 + 4, 70, 11, 71, 10, 10);
        int minds1 = (3 ^ 9) - 9 + 4;
        act(told, 2, 2, 4, ((6 ^ 9) - 9 + 4) * 2 + minds1, 40, 12, 70, 11, 71, 10, 10, 70, 11, 71, 10, 10);
        wrapping(x);
    }

    private static void wrapping(PunchedSouls x) {
        act(x, 1, 0, Runs.MOST, Runs.LEAST, 10);
        act(x, 2, 0, Runs.MOST, Runs.MOST, 30, 10);
        act(x, 0, 2, Runs.LEAST, (Runs.LEAST - 1) * 2, 12, 11, 10);
        act(x, 4, 0, Runs.LEAST - 4, Runs.LEAST, 50, 10);
    }

    private static void wrongActs() {
        PunchedSouls x = Runs.souls(0);
        act(x, 0, 2, 1, 2, 12, 11, 10);
        act(x, 1, 2, 1, 0, NO_BODY);
        act(x, 0, 2, 1, 2, 12, 11, 10);
        act(x, 0, 3, 1, 0, NO_BODY);
        act(x, 0, 2, 1, 2, 12, 11, 10);
        act(x, -1, 0, 1, 0, NO_BODY);
        act(x, 0, -1, 1, 0, NO_BODY);
        expect.is("trace(0)", -1, x.trace(0));
        expect.is("trace(most)", -1, x.trace(Runs.MOST));
        expect.is("trace(least)", -1, x.trace(Runs.LEAST));
    }

    private static void taken() {
        expect.part("promise 29");
        PunchedSouls x = Runs.souls(0, 1, 2, 3, 4, 5);
        PunchedSouls told = Runs.souls(6);
        int[] under = {0b1111111, 0b0010010, 0b0100100, 0b1001000, 0b0010000, 0b0100000, 0b1000000};
        for (int k = 0; k < 7; k++) {
            for (int kind = 0; kind < 7; kind++) {
                int due = (under[k] >> kind & 1) == 1 ? kind : -12;
                int got = kind == 6 ? told.taken(0, k) : x.taken(kind, k);
                expect.is("a " + kind + " taken for a " + k, due, got);
            }
        }
        expect.is("taken(0, 7)", -2, x.taken(0, 7));
        expect.is("taken(0, -1)", -2, x.taken(0, -1));
        expect.is("taken(6, 7)", -2, x.taken(6, 7));
        expect.is("taken(6, 0)", -11, x.taken(6, 0));
        expect.is("taken(-1, 6)", -11, x.taken(-1, 6));
    }

    private static void count() {
        expect.part("promise 30");
        PunchedSouls x = Runs.souls(0, 0, 0);
        Runs.works(x, "round 1");
        Runs.works(x, "round 1");
        x.see(0, 0, 0);
        for (int i = 0; i < 4; i++) {
            x.plan(0, 0);
        }
        for (int i = 0; i < 5; i++) {
            x.book(0, 0);
        }
        Runs.feed(x, "sixsix");
        x.act(0, 2, 0);
        int[] due = {3, 2, 1, 4, 5, 6, 3};
        for (int what = 0; what < 7; what++) {
            expect.is("count(" + what + ")", due[what], x.count(what));
        }
        expect.is("count(7)", -2, x.count(7));
        expect.is("count(-1)", -2, x.count(-1));
    }
}

/** Promises 20 to 23: plan, ends, book, looked. */
public final class PlansTest {
    private static final Expect expect = new Expect();

    public static void main(String[] args) {
        plan();
        ends();
        book();
        looked();
        expect.end();
    }

    private static void plan() {
        expect.part("promise 20");
        PunchedSouls x = Runs.souls(0, 1, 2);
        expect.is("plan(4, 0)", -1, x.plan(4, 0));
        expect.is("plan(-2, 0)", -1, x.plan(-2, 0));
        expect.is("plan(1, 3)", -1, x.plan(1, 3));
        expect.is("plan(1, 30)", -1, x.plan(1, 30));
        expect.is("plan(1, 33)", -1, x.plan(1, 33));
        expect.is("plan(1, -1)", -1, x.plan(1, -1));
        expect.is("plan(1, -10)", -1, x.plan(1, -10));
        expect.is("plan(1, 112)", -1, x.plan(1, 112));
        expect.is("plan(1, least)", -1, x.plan(1, Runs.LEAST));
        expect.is("plan(1, 0)", -2, x.plan(1, 0));
        expect.is("plan(1, 22)", -2, x.plan(1, 22));
        expect.is("plan(2, 3)", -1, x.plan(2, 3));
        expect.is("plan(2, -1)", -1, x.plan(2, -1));
        expect.is("plan(3, 3)", -1, x.plan(3, 3));
        expect.is("plan(3, most)", -1, x.plan(3, Runs.MOST));
        expect.is("count(3)", 0, x.count(3));
        expect.is("plan(0, least)", 1, x.plan(0, Runs.LEAST));
        expect.is("plan(1, 2)", 2, x.plan(1, 2));
        expect.is("plan(1, 20)", 3, x.plan(1, 20));
        expect.is("plan(2, 0)", 4, x.plan(2, 0));
        expect.is("plan(3, 2)", 5, x.plan(3, 2));
        for (int i = 6; i <= 10; i++) {
            expect.is("row " + i, i, x.plan(0, 0));
        }
        expect.is("row 11", -4, x.plan(0, 0));
        expect.is("plan(1, 22) with 10", -2, x.plan(1, 22));
        expect.is("plan(2, 9) with 10", -1, x.plan(2, 9));
        expect.is("count(3)", 10, x.count(3));
        expect.is("plan(-1, 9)", 0, x.plan(-1, 9));
        expect.is("count(3)", 0, x.count(3));
        PunchedSouls six = Runs.souls(0, 0, 0, 0, 0, 0);
        expect.is("plan(1, 54)", 1, six.plan(1, 54));
        expect.is("plan(1, 45)", 2, six.plan(1, 45));
        expect.is("plan(1, 55)", -2, six.plan(1, 55));
        expect.is("plan(1, 50)", 3, six.plan(1, 50));
        expect.is("plan(1, 60)", -1, six.plan(1, 60));
        expect.is("plan(1, 59)", -1, six.plan(1, 59));
        PunchedSouls none = new PunchedSouls();
        expect.is("plan(0, 0) without workers", 1, none.plan(0, 0));
        expect.is("plan(1, 1) without workers", -1, none.plan(1, 1));
        expect.is("ends(0) without workers", 0, none.ends(0));
    }

    private static void ends() {
        expect.part("promise 21");
        PunchedSouls x = Runs.souls(0, 3, 2);
        expect.is("HOLES, no PLAN", 0, x.ends(0));
        expect.is("TEMPER, no PLAN", 25, x.ends(1));
        expect.is("ends(2)", -1001, x.ends(2));
        expect.is("ends(-1)", -1001, x.ends(-1));
        x.plan(1, 12);
        expect.is("TEMPER by a swap: 10, 5, 12", 27, x.ends(1));
        x.plan(2, 0);
        x.plan(0, 0);
        // OLD 1 punches CARD 2 at 0, LAD 2 punches CARD 1 at 2.
        expect.is("HOLES, 0 AT HOME", 2, x.ends(0));
        expect.is("TEMPER: 10, 9 / 2, 11", 25, x.ends(1));
        x.plan(3, 0);
        x.plan(0, 0);
        // HAND 0 at 1, OLD 1 at 1, LAD 2 at 3.
        expect.is("HOLES, all there", 5, x.ends(0));
        expect.is("TEMPER: 9, 8 / 2, 10", 23, x.ends(1));
        Runs.works(x, "round 2;glad 30 p=0&c=2&d=2");
        expect.is("HOLES with ROUND", 5, x.ends(0));
        // Cards 0 2 1 go round on 2 to 2 1 0: HAND with CARD 2: 8 and 30; OLD with 1: 8 / 2; LAD with 0: 9 and 2.
        expect.is("TEMPER by the last DAY", 38 + 4 + 11, x.ends(1));
        expect.is("cards", 1012, Runs.cards(x));
        expect.is("DAY", 0, x.told(0));
        expect.is("HOLES", 0, x.told(2));
        expect.is("AT HOME", 0, x.of(0, 2));
        swapsOfSix();
        x.stay(2, true);
        x.plan(-1, 0);
        x.plan(0, 7);
        expect.is("who is AT HOME stays there", 2, x.ends(0));
        Runs.works(x, "sour 99 p<9");
        expect.is("TEMPER below 0", -90 - 45 - 89, x.ends(1));
    }

    private static void swapsOfSix() {
        PunchedSouls x = Runs.souls(0, 0, 0, 0, 0, 0);
        Runs.works(x, "glad 7 p=5&c=3;glad 50 p=3&c=4");
        x.plan(1, 54);
        x.plan(1, 43);
        expect.is("5 HAS 4, 4 HAS 3, 3 HAS 5", 60, x.ends(1));
        x.plan(1, 54);
        expect.is("5 HAS 3", 67, x.ends(1));
        x.plan(1, 34);
        expect.is("3 HAS 4, too", 117, x.ends(1));
    }

    private static void book() {
        expect.part("promise 22");
        PunchedSouls x = Runs.souls(0, 0);
        expect.is("book(2, 0)", -1, x.book(2, 0));
        expect.is("book(-2, 9999)", -1, x.book(-2, 9999));
        expect.is("book(0, 1024)", -2, x.book(0, 1024));
        expect.is("book(0, -1)", -2, x.book(0, -1));
        for (int i = 1; i <= 8; i++) {
            expect.is("row " + i, i, x.book(i % 2, i));
        }
        expect.is("row 9", -4, x.book(0, 0));
        expect.is("book(2, 0) with 8", -1, x.book(2, 0));
        expect.is("book(0, 1024) with 8", -2, x.book(0, 1024));
        expect.is("count(4)", 8, x.count(4));
        expect.is("book(-1, 9999)", 0, x.book(-1, 9999));
        expect.is("count(4)", 0, x.count(4));
    }

    private static void looked() {
        expect.part("promise 23");
        PunchedSouls x = Runs.souls(0, 1, 2);
        expect.is("no BOOK", -5, x.looked());
        x.set(1, 9);
        x.book(1, 9);
        x.book(0, 0);
        x.book(2, 0);
        expect.is("all so", -5, x.looked());
        x.book(1, 8);
        expect.is("row 3", 3, x.looked());
        x.pass(1);
        expect.is("row 1", 1, x.looked());
        x.set(1, 8);
        expect.is("row 0", 0, x.looked());
        x.book(-1, 0);
        expect.is("an empty one", -5, x.looked());
    }
}

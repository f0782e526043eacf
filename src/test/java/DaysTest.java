/** Promises 11 to 14: pass, on, full, best. */
public final class DaysTest {
    private static final Expect expect = new Expect();

    public static void main(String[] args) {
        pass();
        rounds();
        lastDay();
        on();
        full();
        best();
        bestOfSeveral();
        expect.end();
    }

    private static void pass() {
        expect.part("promise 11");
        PunchedSouls x = new PunchedSouls();
        for (int kind = 0; kind < 6; kind++) {
            x.worker(kind, 8);
        }
        expect.is("pass(0)", 0, x.pass(0));
        expect.is("HOLES of all", 0, x.told(2));
        expect.is("pass(5)", 5, x.pass(5));
        expect.is("HAND", 0b11111, x.told(10));
        expect.is("LATE: 1, 2, 4", 0b10110, x.told(11));
        expect.is("LAD: 8, 9, 0, 1, 2", 0b1100000111, x.told(12));
        expect.is("OLD: 0 .. 4", 0b11111, x.told(13));
        expect.is("BLINKER: 1 2, 2 3, 4 5", 0b111110, x.told(14));
        expect.is("MINDER: 8, 9, 0, 1, 2", 0b1100000111, x.told(15));
        x.set(13 - 10, 0b0111101111);
        x.set(5, 0b1000001000);
        expect.is("pass(2)", 7, x.pass(2));
        expect.is("OLD: 4, 9", 0b1111111111, x.told(13));
        // Slots 3 and 4; 3 has a HOLE, so 8 in its place.
        expect.is("MINDER: 8, 4", 0b1100011000, x.told(15));
        expect.is("pass(-1)", -2, x.pass(-1));
        expect.is("pass(61)", -2, x.pass(61));
        expect.is("DAY", 7, x.told(0));
        expect.is("pass(60)", 67, x.pass(60));
        expect.is("all full", 60, x.told(2));
        PunchedSouls last = Runs.souls(0, 0, 0, 0, 0, 6);
        last.row(5, 3, 8);
        expect.is("the last one's ROW, asked", 0b100001111, last.on(4, 15));
        PunchedSouls told = Runs.souls(6, 6);
        told.row(1, 0, 7);
        told.row(1, 1, 6);
        told.row(1, 2, 2);
        told.row(1, 3, 3);
        told.pass(3);
        expect.is("TOLD with ROW 0: 0, 1, 2", 0b111, told.told(10));
        expect.is("TOLD with ROW 7, 6, 2, 3", 0b11000111, told.told(11));
        told.pass(2);
        expect.is("TOLD: 3, then 4 and 7", 0b11011111, told.told(11));
    }

    private static void rounds() {
        expect.part("promise 11, ROUND");
        PunchedSouls x = Runs.souls(0, 0, 0, 0);
        Runs.works(x, "round 2");
        x.pass(1);
        expect.is("cards on 1", 10123, Runs.cards(x));
        x.pass(1);
        expect.is("cards on 2", 11230, Runs.cards(x));
        x.swap(0, 3);
        x.pass(2);
        expect.is("cards on 4", 12310, Runs.cards(x));
        Runs.works(x, "round 0");
        x.pass(10);
        expect.is("cards with ROUND 0", 12310, Runs.cards(x));
        Runs.works(x, "round 15");
        x.pass(1);
        expect.is("cards on 15", 13102, Runs.cards(x));
        Runs.works(x, "round 99");
        x.pass(60);
        expect.is("cards on 75", 13102, Runs.cards(x));
        x.pass(24);
        expect.is("cards on 99", 11023, Runs.cards(x));
        PunchedSouls daily = Runs.souls(0, 0, 0);
        Runs.works(daily, "round 1");
        daily.pass(1);
        expect.is("cards with ROUND 1", 1120, Runs.cards(daily));
        PunchedSouls one = Runs.souls(0);
        Runs.works(one, "round 1");
        one.pass(3);
        expect.is("one alone", 10, Runs.cards(one));
        PunchedSouls none = new PunchedSouls();
        Runs.works(none, "round 1");
        expect.is("none at all", 60, none.pass(60));
        none.worker(0, 0);
        expect.is("the first then", 10, Runs.cards(none));
    }

    private static void lastDay() {
        expect.part("promise 11, the last DAY");
        PunchedSouls x = Runs.souls(0, 6);
        for (int i = 0; i < 166; i++) {
            x.pass(60);
        }
        expect.is("DAY", 9960, x.told(0));
        expect.is("pass(40)", -3, x.pass(40));
        expect.is("pass(61)", -2, x.pass(61));
        expect.is("pass(39)", 9999, x.pass(39));
        expect.is("pass(1)", -3, x.pass(1));
        expect.is("pass(0)", 9999, x.pass(0));
        x.set(0, 0);
        x.set(1, 0);
        x.row(1, 0, 8);
        expect.is("9999 and 10000, as asked", 0b1000000001, x.on(2, 10));
        expect.is("9999 and 10000 of the TOLD", 0b100000011, x.on(2, 11));
        expect.is("60 beyond", 20, x.on(60, 0));
        expect.is("full", 10, x.full(0, 10));
        x.plan(0, 0);
        x.plan(0, 0);
        expect.is("ends(0)", 5, x.ends(0));
        expect.is("DAY", 9999, x.told(0));
        expect.is("HOLES", 0, x.told(2));
    }

    private static void on() {
        expect.part("promise 12");
        PunchedSouls x = Runs.souls(0, 0, 3);
        Runs.works(x, "round 2");
        x.stay(1, true);
        expect.is("on(0, 0)", 0, x.on(0, 0));
        // CARD 0 by 0 on 0, 1; then 2 has it: slots 2, 3. CARD 1: 1 at home, then 0: 2, 3. CARD 2: 0, 1, then home.
        expect.is("on(4, 10)", 0b1111, x.on(4, 10));
        expect.is("on(4, 11)", 0b1100, x.on(4, 11));
        expect.is("on(4, 12)", 0b11, x.on(4, 12));
        expect.is("on(4, 0)", 8, x.on(4, 0));
        expect.is("on(4, 20)", 2, x.on(4, 20));
        expect.is("on(4, 21)", 0, x.on(4, 21));
        expect.is("on(4, 22)", 1, x.on(4, 22));
        expect.is("on(1, 20)", 0, x.on(1, 20));
        expect.is("on(60, 0)", 30, x.on(60, 0));
        expect.is("on(61, 0)", -2, x.on(61, 0));
        expect.is("on(-1, 0)", -2, x.on(-1, 0));
        expect.is("on(61, 1)", -1, x.on(61, 1));
        expect.is("on(0, 13)", -1, x.on(0, 13));
        expect.is("on(0, 19)", -1, x.on(0, 19));
        expect.is("on(0, 23)", -1, x.on(0, 23));
        expect.is("on(0, -1)", -1, x.on(0, -1));
        expect.is("on(0, least)", -1, x.on(0, Runs.LEAST));
        expect.is("DAY", 0, x.told(0));
        expect.is("HOLES", 0, x.told(2));
        expect.is("cards", 1012, Runs.cards(x));
    }

    private static void full() {
        expect.part("promise 13");
        PunchedSouls x = Runs.souls(0, 1, 3);
        x.stay(2, true);
        x.set(2, 0b1010);
        expect.is("full(0, 0)", 0, x.full(0, 0));
        expect.is("full(0, 1)", 1, x.full(0, 1));
        expect.is("full(0, 10)", 10, x.full(0, 10));
        // LATE: 1, 2, 4, 5, 7, 8, then 10 (slot 0), 11 (1), 13 (3), 14, 16 (6), 17, 19 (9).
        expect.is("full(1, 6)", 9, x.full(1, 6));
        expect.is("full(1, 7)", 11, x.full(1, 7));
        expect.is("full(1, 10)", 20, x.full(1, 10));
        expect.is("full(2, 2)", 0, x.full(2, 2));
        expect.is("full(2, 3)", -5, x.full(2, 3));
        expect.is("full(3, 0)", -1, x.full(3, 0));
        expect.is("full(-1, 99)", -1, x.full(-1, 99));
        expect.is("full(0, 11)", -2, x.full(0, 11));
        expect.is("full(0, -1)", -2, x.full(0, -1));
        expect.is("DAY", 0, x.told(0));
        PunchedSouls slow = Runs.souls(0, 0);
        Runs.works(slow, "round 60");
        slow.stay(0, true);
        slow.stay(1, true);
        expect.is("full(1, 1), never", -5, slow.full(1, 1));
        slow.stay(0, false);
        expect.is("full(1, 1), first on the 61st", -5, slow.full(1, 1));
        Runs.works(slow, "round 59");
        expect.is("full(1, 1), on the 60th", 60, slow.full(1, 1));
    }

    private static void best() {
        expect.part("promise 14");
        PunchedSouls x = Runs.souls(0, 0, 0);
        Runs.works(x, "glad 5 p=0&c=2;glad 7 p=1&c=2;glad 3 p=0&c=1;sour 4 p=2&c=0;glad 2 p=1&c=0");
        // 0 with 1, 1 with 2: 3 and 7, but 2 with 0: -4; 0 with 0, 1 with 2, 2 with 1: 7; 0 with 2, 1 with 0: 7, too.
        expect.is("how much", 37, x.best(0));
        expect.is("CARD of 0", 0, x.best(10));
        expect.is("CARD of 1", 2, x.best(11));
        expect.is("CARD of 2", 1, x.best(12));
        Runs.works(x, "glad 5 p=0&c=2;glad 7 p=1&c=2;glad 3 p=0&c=1;glad 4 p=2&c=0;glad 2 p=1&c=0");
        expect.is("how much", 44, x.best(0));
        expect.is("CARD of 0", 1, x.best(10));
        expect.is("CARD of 1", 2, x.best(11));
        expect.is("CARD of 2", 0, x.best(12));
        expect.is("best(13)", -1001, x.best(13));
        expect.is("best(1)", -1001, x.best(1));
        expect.is("best(9)", -1001, x.best(9));
        expect.is("best(-1)", -1001, x.best(-1));
        expect.is("best(least)", -1001, x.best(Runs.LEAST));
        expect.is("cards", 1012, Runs.cards(x));
        Runs.works(x, "sour 99 p=0|p=1|p=2");
        expect.is("how much below 0", -267, x.best(0));
        expect.is("none", 0, new PunchedSouls().best(0));
        expect.is("CARD of none", -1001, new PunchedSouls().best(10));
    }

    private static void bestOfSeveral() {
        expect.part("promise 14, of several the first");
        PunchedSouls x = Runs.souls(0, 0, 0, 0, 0, 0);
        x.swap(0, 5);
        for (int p = 0; p < 6; p++) {
            expect.is("all alike: CARD of " + p, p, x.best(10 + p));
        }
        PunchedSouls lads = new PunchedSouls();
        for (int p = 0; p < 5; p++) {
            lads.worker(2, 1);
        }
        // Each is better off with another's: of the rows without its own, the first is 1 0 3 4 2.
        int[] due = {1, 0, 3, 4, 2};
        expect.is("how much", 55, lads.best(0));
        for (int p = 0; p < 5; p++) {
            expect.is("LADS: CARD of " + p, due[p], lads.best(10 + p));
        }
    }
}

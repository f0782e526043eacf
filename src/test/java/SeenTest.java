/** Promises 15 to 19: see, had, can, odds, mean. */
public final class SeenTest {
    private static final Expect expect = new Expect();

    public static void main(String[] args) {
        see();
        had();
        can();
        odds();
        mean();
        expect.end();
    }

    private static void see() {
        expect.part("promise 15");
        PunchedSouls x = Runs.souls(0, 0);
        expect.is("see(2, 0, 0)", -1, x.see(2, 0, 0));
        expect.is("see(-2, 9999, 99)", -1, x.see(-2, 9999, 99));
        expect.is("see(0, 1024, 0)", -2, x.see(0, 1024, 0));
        expect.is("see(0, -1, 0)", -2, x.see(0, -1, 0));
        expect.is("see(0, 0, 21)", -2, x.see(0, 0, 21));
        expect.is("see(0, 0, -1)", -2, x.see(0, 0, -1));
        expect.is("count(2)", 0, x.count(2));
        for (int i = 1; i <= 5; i++) {
            expect.is("see " + i, i, x.see(i % 2, 1023, 20));
        }
        expect.is("see 6", -4, x.see(0, 0, 0));
        expect.is("see(2, 0, 0) with 5", -1, x.see(2, 0, 0));
        expect.is("see(0, 0, 21) with 5", -2, x.see(0, 0, 21));
        expect.is("count(2)", 5, x.count(2));
        expect.is("see(-1, 9999, 99)", 0, x.see(-1, 9999, 99));
        expect.is("count(2)", 0, x.count(2));
        expect.is("see(1, 0, 0)", 1, x.see(1, 0, 0));
        expect.is("see(-1, ..) without workers", 0, new PunchedSouls().see(-1, 0, 0));
        expect.is("see(0, ..) without workers", -1, new PunchedSouls().see(0, 0, 0));
    }

    private static void had() {
        expect.part("promise 16");
        PunchedSouls x = Runs.souls(0, 1, 2, 3);
        expect.is("nothing SEEN", 15, x.had(0));
        expect.is("had(4)", -1, x.had(4));
        expect.is("had(-1)", -1, x.had(-1));
        x.stay(1, true);
        // On day 0 a HAND punches 0, LAD 2 punches 2, an OLD one punches 0, LATE 1 is at home.
        x.see(0, 1, 1);
        expect.is("0 HAS its own, or the OLD one's", 0b1001, x.had(0));
        expect.is("3 may have any: an OLD one punches 0, too", 0b1111, x.had(3));
        expect.is("1 may have any but 0's", 0b1110, x.had(1));
        expect.is("2 may have any but 0's", 0b1110, x.had(2));
        x.see(2, 4, 1);
        expect.is("0 with 0 or 3", 0b1001, x.had(0));
        expect.is("2 with its own alone", 0b0100, x.had(2));
        expect.is("1 with its own or 3", 0b1010, x.had(1));
        x.see(3, 0, 0);
        expect.is("behind 0 days it is so anyway", 0b1010, x.had(1));
        x.see(3, 0, 1);
        expect.is("1 with the OLD one's", 0b1000, x.had(1));
        x.see(3, 1, 20);
        expect.is("never so", 0, x.had(1));
        expect.is("cards", 10123, Runs.cards(x));
        expect.is("DAY", 0, x.told(0));
        seenLater();
    }

    /** SEEN tells of days from when it is asked. */
    private static void seenLater() {
        PunchedSouls x = Runs.souls(0, 0);
        x.see(0, 0b11, 1);
        expect.is("not now", 0, x.had(0));
        x.pass(1);
        expect.is("a day later", 0b01, x.had(0) & 1);
        x.swap(0, 1);
        x.set(1, 0b100);
        x.see(-1, 0, 0);
        x.see(1, 0b110, 1);
        expect.is("by swapped cards, alike", 0b11, x.had(1));
        x.stay(0, true);
        expect.is("who HAS it must not be AT HOME", 0b10, x.had(1));
    }

    private static void can() {
        expect.part("promise 17");
        PunchedSouls x = Runs.souls(2, 5, 0);
        expect.is("nothing SEEN, how many", 10, x.can(0, 0));
        expect.is("nothing SEEN, the least", 0, x.can(0, 1));
        expect.is("can(0, 2)", -1, x.can(0, 2));
        expect.is("can(0, -1)", -1, x.can(0, -1));
        expect.is("can(3, 0)", -1, x.can(3, 0));
        expect.is("can(-1, 9)", -1, x.can(-1, 9));
        x.see(0, 0b1100000000, 2);
        expect.is("v 8, how many", 1, x.can(0, 0));
        expect.is("v 8", 8, x.can(0, 1));
        expect.is("another's v", 0, x.can(1, 0));
        expect.is("another's v, the least", -5, x.can(1, 1));
        x.see(-1, 0, 0);
        x.set(1, 0b10000000);
        x.see(1, 0b10000100, 1);
        // MINDER: slot 2 as LAD, or slot 7 with a HOLE, so 2 in its place.
        expect.is("v 2 or 7", 2, x.can(1, 0));
        expect.is("the least", 2, x.can(1, 1));
        expect.is("a HAND's does not matter", 0, x.can(2, 0));
        x.see(1, 0b10001100, 2);
        expect.is("v 2 alone: 7 goes on to 8", 1, x.can(1, 0));
        expect.is("its v", 1, x.of(1, 1));
        expect.is("DAY", 0, x.told(0));
        canOfTold();
    }

    private static void canOfTold() {
        PunchedSouls x = Runs.souls(6);
        x.row(0, 0, 5);
        x.see(0, 0b100001, 1);
        expect.is("a TOLD one keeps its ROW", 10, x.can(0, 0));
        x.stay(0, true);
        expect.is("and is AT HOME", 0, x.can(0, 0));
    }

    private static void odds() {
        expect.part("promise 18");
        PunchedSouls x = new PunchedSouls();
        expect.is("none there", Runs.NO, x.odds(0, 0, 0));
        PunchedSouls one = Runs.souls(0);
        expect.is("one alone is at home, above", 1, one.odds(9, 0, 0));
        expect.is("one alone is at home, below", 1, one.odds(9, 0, 1));
        for (int p = 0; p < 4; p++) {
            x.worker(p == 3 ? 1 : 0, 0);
        }
        // In 3 days a HAND punches 3, a LATE one 2: without a HAND 8 together, without the LATE one 9.
        expect.is("8 or fewer, above", 3, x.odds(3, 8, 0));
        expect.is("8 or fewer, below", 4, x.odds(3, 8, 1));
        expect.is("7 or fewer, above", 0, x.odds(3, 7, 0));
        expect.is("7 or fewer, below", 1, x.odds(3, 7, 1));
        expect.is("9 or fewer, above", 1, x.odds(3, 9, 0));
        expect.is("9 or fewer, below", 1, x.odds(3, 9, 1));
        x.worker(1, 0);
        x.worker(4, 0);
        x.stay(5, true);
        // Three HANDS 9, two LATE ones 4, 5 at home anyway: 10 by a HAND, 11 by a LATE one, 13 by 5.
        expect.is("10 or fewer, above", 1, x.odds(3, 10, 0));
        expect.is("10 or fewer, below", 2, x.odds(3, 10, 1));
        expect.is("11 or fewer, above", 5, x.odds(3, 11, 0));
        expect.is("11 or fewer, below", 6, x.odds(3, 11, 1));
        expect.is("12 or fewer, above", 5, x.odds(3, 12, 0));
        expect.is("13 or fewer, above", 1, x.odds(3, 13, 0));
        expect.is("60 days", 1, x.odds(60, 60, 0));
        expect.is("0 days", 1, x.odds(0, 0, 1));
        expect.is("n 61", Runs.NO, x.odds(61, 0, 0));
        expect.is("n -1", Runs.NO, x.odds(-1, 0, 0));
        expect.is("q 61", Runs.NO, x.odds(0, 61, 0));
        expect.is("q -1", Runs.NO, x.odds(0, -1, 0));
        expect.is("part 2", Runs.NO, x.odds(0, 0, 2));
        expect.is("part -1", Runs.NO, x.odds(0, 0, -1));
        expect.is("at home", 0, x.of(0, 2));
        expect.is("HOLES", 0, x.told(2));
    }

    private static void mean() {
        expect.part("promise 19");
        PunchedSouls x = new PunchedSouls();
        expect.is("none there", Runs.NO, x.mean(0, 0));
        PunchedSouls one = Runs.souls(0);
        expect.is("one alone, above", 9, one.mean(9, 0));
        expect.is("one alone, below", 1, one.mean(9, 1));
        x.worker(0, 0);
        x.worker(1, 0);
        x.worker(4, 0);
        x.worker(0, 0);
        x.stay(3, true);
        expect.is("0 / 4, above", 0, x.mean(0, 0));
        expect.is("0 / 4, below", 1, x.mean(0, 1));
        // Behind 3 days: 3, 2, 3 (1 2, 2 3), 0.
        expect.is("8 / 4, above", 2, x.mean(3, 0));
        expect.is("8 / 4, below", 1, x.mean(3, 1));
        // Behind 2: 2, 1, 2, 0.
        expect.is("5 / 4, above", 5, x.mean(2, 0));
        expect.is("5 / 4, below", 4, x.mean(2, 1));
        // Behind 5: 5, 3, 5 (1 2 3 4 5), 0, and one hole set: 14.
        x.set(3, 64);
        expect.is("14 / 4, above", 7, x.mean(5, 0));
        expect.is("14 / 4, below", 2, x.mean(5, 1));
        expect.is("60 days", 31, x.mean(60, 0));
        expect.is("n 61", Runs.NO, x.mean(61, 0));
        expect.is("n -1", Runs.NO, x.mean(-1, 0));
        expect.is("part 2", Runs.NO, x.mean(0, 2));
        expect.is("part -1", Runs.NO, x.mean(0, -1));
        expect.is("DAY", 0, x.told(0));
    }
}

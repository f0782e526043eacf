/** Boundary cases of what is SEEN, ODDS, MEAN, PLANS and BOOKS: promises 15 to 23, and what the Terms say of them. */
final class EdgesOfAsked implements Answers {
    private final Edges e;

    EdgesOfAsked(Edges edges) {
        e = edges;
    }

    void ask() {
        beyond9999();
        seen();
        see();
        had();
        can();
        canRefused();
        odds();
        oddsRefused();
        mean();
        meanRefused();
        plan();
        planRefused();
        ends();
        book();
        bookRefused();
        looked();
    }

    /** A LATE one, a LAD and a TOLD one on the last DAY. */
    private void lastDay() {
        e.anew();
        e.make("worker(1, 0)", "worker(2, 3)", "worker(6, 0)", "row(2, 0, 8)", "row(2, 3, 9)");
        e.days(9999);
        e.make("set(0, 0)", "set(1, 0)", "set(2, 0)");
    }

    private void beyond9999() {
        e.terms("All that follows is asked, goes on from how all is (DAYS beyond 9999, too), and changes nothing.");
        // 9999 is a multiple of 3, and 3 modulo 4; 10000 is 1 modulo 3, 0 modulo 4, 0 modulo 10.
        lastDay();
        e.is("on(1, 10)", 0);
        e.is("on(2, 10)", 1);
        e.is("on(3, 10)", 3);
        e.is("on(1, 11)", 4);
        e.is("on(2, 11)", 12);
        e.is("on(1, 12)", 513);
        e.is("on(2, 12)", 512 + 256 + 3);
        e.is("on(60, 0)", 30);
        e.is("full(0, 2)", 3);
        e.is("full(1, 10)", 10);
        e.make("see(1, 28, 3)");
        e.is("can(1, 1)", 3);
        e.is("had(1)", 2);
        e.is("odds(2, 5, 0)", 2);
        e.is("odds(2, 5, 1)", 3);
        e.is("mean(2, 0)", 7);
        e.is("mean(2, 1)", 3);
        e.make("plan(0, 0)", "plan(0, 0)");
        e.is("ends(0)", 7);
        e.is("ends(1)", 9 + 8 + 3);
        e.is("told(6)", NOT);
        e.is("pass(1)", STATE);
        e.is("told(0)", 9999);
        e.is("told(2)", 0);
        roundBeyond();
    }

    private void roundBeyond() {
        lastDay();
        e.works("round 10;glad 50 d=1&c=1&p=0");
        e.is("on(1, 20)", 1);
        e.is("on(11, 20)", 2);
        e.is("of(0, 3)", 0);
        e.make("plan(0, 0)", "plan(0, 0)");
        // Behind 10001: 0 HAS CARD 1 with 2 HOLES, 1 HAS CARD 2 with 3, 2 HAS CARD 0 with 2.
        e.is("ends(1)", 58 + 10 + 4);
    }

    private void seen() {
        e.terms("SEEN told by hand: a CARD, its HOLES (bits) behind n DAYS (0 .. 20) from now (5 at most).");
        e.workers(0, 0);
        e.is("see(0, 0, -1)", BAD);
        e.is("see(0, 0, 21)", BAD);
        e.is("see(0, 0, 0)", 1);
        e.is("had(0)", 3);
        e.is("see(1, 1023, 20)", 2);
        e.is("had(0)", 3);
        e.is("see(0, 1023, 10)", 3);
        e.is("had(0)", 3);
        e.is("see(1, 511, 9)", 4);
        e.is("had(0)", 3);
        e.is("see(1, 1023, 9)", 5);
        e.is("had(0)", 0);
        e.is("see(1, 1023, 9)", FULL);
        e.is("count(2)", 5);
        e.anew();
        e.workers(0);
        e.make("see(0, 1, 1)");
        e.is("had(0)", 1);
        e.make("pass(1)");
        e.is("had(0)", 0);
        e.make("set(0, 0)", "see(-1, 0, 0)", "see(0, 2, 1)");
        e.is("had(0)", 1);
        seenBehind20();
    }

    private void seenBehind20() {
        e.anew();
        e.workers(0, 0);
        e.works("round 19");
        e.make("stay(1, true)", "see(1, 512, 20)");
        // From DAY 19 on 0 HAS CARD 1, and punches SLOT 9.
        e.is("can(0, 0)", 10);
        e.make("see(1, 0, 19)");
        e.is("can(0, 0)", 10);
        e.make("see(1, 512, 19)");
        e.is("can(0, 0)", 0);
    }

    private void see() {
        e.promise(15, "What is SEEN comes: how many there are (card -1: none then, 0).");
        e.is("see(-1, 0, 0)", 0);
        e.workers(0);
        e.is("see(-1, 5, 5)", 0);
        e.is("see(0, 1023, 0)", 1);
        e.is("had(0)", 0);
        e.is("see(0, 1023, 0)", 2);
        e.is("see(-1, 1024, 21)", 0);
        e.is("count(2)", 0);
        e.is("had(0)", 1);
        e.is("see(0, 0, 0)", 1);
        e.is("had(0)", 1);
        e.is("see(-1, -1, -1)", 0);
        e.promise(15, "NONE; BAD: holes, n; FULL: 5.");
        e.workers(0, 0);
        e.is("see(-2, 0, 0)", NONE);
        e.is("see(2, 0, 0)", NONE);
        e.is("see(2, 1024, 21)", NONE);
        e.is("see(1, -1, 0)", BAD);
        e.is("see(1, 1024, 0)", BAD);
        e.is("see(1, 0, -1)", BAD);
        e.is("see(1, 0, 21)", BAD);
        e.is("see(1, least, most)", BAD);
        e.is("count(2)", 0);
        for (int i = 1; i <= 5; i++) {
            e.is("see(1, 0, 0)", i);
        }
        e.is("see(1, 0, 0)", FULL);
        e.is("see(2, 0, 0)", NONE);
        e.is("see(1, 0, 21)", BAD);
        e.is("see(1, 1024, 0)", BAD);
        e.is("see(-1, 0, 0)", 0);
        e.is("see(1, 0, 0)", 1);
    }

    private void had() {
        e.terms("HAD by a WORKER: those CARDS, as bits, by which, did it SWAP for that now, all of SEEN is so.");
        e.workers(0, 2, 4, 3, 0, 0);
        e.is("had(0)", 63);
        e.is("had(5)", 63);
        // On DAY 0: HAND slot 0, LAD slot 1, BLINKER none, OLD slot 0.
        e.make("see(5, 0, 1)");
        e.is("had(5)", 4);
        e.is("had(2)", 32);
        e.is("had(0)", 0);
        e.make("see(0, 1, 1)");
        e.is("had(2)", 32);
        e.make("see(0, 2, 1)");
        e.is("had(2)", 0);
        e.anew();
        e.workers(2, 2, 2);
        e.make("swap(0, 2)", "see(2, 1, 1)");
        // Slot 0 is 0's, who HAS CARD 2: it may keep that, no other; 1 and 2 may SWAP among them.
        e.is("had(0)", 4);
        e.is("had(1)", 3);
        e.is("had(2)", 3);
        e.is("of(0, 3)", 2);
        e.promise(16, "HAD (bits).");
        e.workers(0);
        e.is("had(0)", 1);
        e.make("see(0, 1, 0)");
        e.is("had(0)", 0);
        e.promise(16, "NONE.");
        e.workers(0, 0);
        e.is("had(-1)", NONE);
        e.is("had(2)", NONE);
        e.is("had(least)", NONE);
        e.is("had(most)", NONE);
    }

    private void can() {
        e.terms("CAN of a WORKER: how many numbers v (0 .. 9) there are by which, were that its v now, "
            + "all of SEEN is so; the least (-5: none).");
        e.make("worker(2, 5)", "worker(5, 5)", "worker(0, 5)");
        e.is("can(0, 0)", 10);
        e.is("can(0, 1)", 0);
        e.make("see(0, 512, 1)");
        e.is("can(0, 0)", 1);
        e.is("can(0, 1)", 9);
        e.is("can(1, 0)", 0);
        e.is("can(1, 1)", NOT);
        e.make("see(-1, 0, 0)", "see(0, 1, 1)");
        e.is("can(0, 0)", 1);
        e.is("can(0, 1)", 0);
        e.make("see(-1, 0, 0)", "set(1, 512)", "see(1, 528, 1)");
        // Slot 4, or slot 9, where there is a HOLE, and so 4 in place of it.
        e.is("can(1, 0)", 2);
        e.is("can(1, 1)", 4);
        e.make("see(1, 529, 2)");
        e.is("can(1, 0)", 1);
        e.is("can(1, 1)", 9);
        e.make("see(0, 32, 1)");
        e.is("can(1, 0)", 1);
        e.make("see(0, 31, 1)");
        e.is("can(1, 0)", 0);
        e.is("can(1, 1)", NOT);
        e.make("see(-1, 0, 0)", "see(2, 1, 1)");
        e.is("can(2, 0)", 10);
        e.make("see(2, 3, 1)");
        e.is("can(2, 0)", 0);
        e.is("of(1, 1)", 5);
    }

    private void canRefused() {
        e.promise(17, "CAN: what 0 how many, 1 the least; -5.");
        e.make("worker(2, 7)");
        e.is("can(0, 0)", 10);
        e.is("can(0, 1)", 0);
        e.make("see(0, 128, 1)");
        e.is("can(0, 0)", 1);
        e.is("can(0, 1)", 7);
        e.make("see(0, 64, 1)");
        e.is("can(0, 0)", 0);
        e.is("can(0, 1)", NOT);
        e.promise(17, "NONE.");
        e.workers(2, 2);
        e.is("can(-1, 0)", NONE);
        e.is("can(2, 0)", NONE);
        e.is("can(2, 2)", NONE);
        e.is("can(1, -1)", NONE);
        e.is("can(1, 2)", NONE);
        e.is("can(most, least)", NONE);
    }

    private void odds() {
        e.terms("ODDS of n DAYS (0 .. 60) and q (0 .. 60): if one WORKER, each alike likely, is AT HOME from now on: "
            + "how likely HOLES of all, together, are q or fewer behind n: a fraction in lowest terms "
            + "(NO: there are none).");
        e.is("odds(0, 0, 0)", NO);
        e.is("odds(0, 0, 1)", NO);
        e.workers(0);
        e.is("odds(60, 0, 0)", 1);
        e.is("odds(60, 0, 1)", 1);
        e.make("worker(0, 0)", "worker(0, 0)", "worker(1, 0)", "worker(1, 0)", "worker(1, 0)");
        // One DAY: three HANDS, no LATE one. 2 HOLES without a HAND, 3 without a LATE one.
        fraction("odds(1, 1, %d)", 0, 1);
        fraction("odds(1, 2, %d)", 1, 2);
        fraction("odds(1, 3, %d)", 1, 1);
        fraction("odds(0, 0, %d)", 1, 1);
        fraction("odds(60, 60, %d)", 1, 1);
        fraction("odds(60, 50, %d)", 1, 1);
        fraction("odds(60, 49, %d)", 0, 1);
        e.make("stay(5, true)");
        // 5 is AT HOME anyway: three of six leave 2 HOLES.
        fraction("odds(1, 2, %d)", 1, 2);
        e.make("stay(0, true)");
        // 1 without 1 or 2, 2 without any other.
        fraction("odds(1, 1, %d)", 1, 3);
        e.make("set(3, 3)");
        fraction("odds(1, 2, %d)", 0, 1);
        fraction("odds(1, 3, %d)", 1, 3);
        fraction("odds(1, 4, %d)", 1, 1);
        e.anew();
        e.workers(0, 0, 0, 0, 0, 1);
        fraction("odds(1, 4, %d)", 5, 6);
    }

    private void fraction(String form, long above, long below) {
        e.is(String.format(form, 0), above);
        e.is(String.format(form, 1), below);
    }

    private void oddsRefused() {
        e.promise(18, "ODDS; part 0 above, 1 below the line.");
        e.workers(0, 0, 1);
        fraction("odds(1, 1, %d)", 2, 3);
        e.promise(18, "NO.");
        e.is("odds(0, 0, 0)", NO);
        e.workers(0);
        for (String call : new String[] {
            "odds(-1, 0, 0)", "odds(61, 0, 0)", "odds(0, -1, 0)", "odds(0, 61, 0)", "odds(0, 0, -1)", "odds(0, 0, 2)",
            "odds(least, 0, 0)", "odds(most, 0, 0)", "odds(0, least, 0)", "odds(0, most, 0)", "odds(0, 0, most)"}) {
            e.is(call, NO);
        }
        e.is("odds(60, 60, 1)", 1);
    }

    private void mean() {
        e.terms("MEAN of n DAYS (0 .. 60): HOLES of all behind n, together, by how many CARDS there are: "
            + "a fraction in lowest terms (NO likewise).");
        e.is("mean(0, 0)", NO);
        e.is("mean(60, 1)", NO);
        e.workers(0);
        fraction("mean(0, %d)", 0, 1);
        fraction("mean(60, %d)", 10, 1);
        e.make("worker(1, 0)", "worker(4, 0)", "worker(0, 0)", "worker(0, 0)", "worker(0, 0)");
        fraction("mean(0, %d)", 0, 1);
        // Behind 1: 4; behind 2: 8, 1, 2; behind 60: all.
        fraction("mean(1, %d)", 2, 3);
        fraction("mean(2, %d)", 11, 6);
        fraction("mean(60, %d)", 10, 1);
        e.make("stay(5, true)");
        fraction("mean(1, %d)", 1, 2);
        fraction("mean(2, %d)", 3, 2);
    }

    private void meanRefused() {
        e.promise(19, "MEAN; part likewise. NO.");
        e.is("mean(0, 0)", NO);
        e.workers(0, 1);
        fraction("mean(1, %d)", 1, 2);
        for (String call : new String[] {
            "mean(-1, 0)", "mean(61, 0)", "mean(least, 0)", "mean(most, 0)", "mean(0, -1)", "mean(0, 2)",
            "mean(0, least)", "mean(0, most)"}) {
            e.is(call, NO);
        }
    }

    private void plan() {
        e.terms("A PLAN told by hand: what goes (0 a DAY, 1 WORKERS a and b SWAP, told as 10 times a and b, "
            + "2 WORKER n is AT HOME, 3 it is not; 10 rows at most): ENDS: HOLES of all, together; "
            + "TEMPER of all, together.");
        e.workers(0, 2);
        e.is("ends(0)", 0);
        e.is("ends(1)", 20);
        for (int i = 1; i <= 10; i++) {
            e.is("plan(0, 0)", i);
            e.is("ends(0)", 2 * i);
        }
        e.is("ends(1)", 0);
        e.is("plan(0, 0)", FULL);
        e.is("ends(0)", 20);
        e.anew();
        e.workers(2, 2, 2, 2, 2, 2);
        e.make("plan(1, 5)");
        e.is("ends(1)", 65);
        e.make("plan(1, 50)");
        e.is("ends(1)", 60);
        e.make("plan(1, 45)", "plan(1, 10)");
        e.is("ends(1)", 70);
        e.make("plan(2, 5)", "plan(0, 0)");
        e.is("ends(0)", 5);
        e.make("plan(2, 0)", "plan(0, 0)", "plan(3, 5)", "plan(0, 0)");
        e.is("ends(0)", 5 + 4 + 5);
        e.is("count(3)", 10);
        e.is("plan(3, 0)", FULL);
        // Who SWAPS is not AT HOME by that.
        for (int ab : new int[] {1, 2, 10, 23, 30, 32}) {
            e.anew();
            e.workers(0, 0, 0, 0);
            e.make("plan(1, " + ab + ")", "plan(0, " + ab + ")");
            e.is("ends(0)", 4);
        }
        e.anew();
        e.workers(0, 0);
        e.make("stay(1, true)", "plan(3, 1)", "plan(0, 0)", "plan(2, 1)", "plan(0, 0)");
        e.is("ends(0)", 3);
    }

    private void planRefused() {
        e.promise(20, "A row comes to the PLAN: how many there are (what -1: it is empty then, 0).");
        e.is("plan(-1, 0)", 0);
        e.is("plan(0, least)", 1);
        e.workers(0, 0);
        e.is("plan(1, 1)", 2);
        e.is("ends(0)", 2);
        e.is("plan(-1, most)", 0);
        e.is("count(3)", 0);
        e.is("ends(0)", 0);
        e.is("plan(0, 9)", 1);
        e.promise(20, "NONE: what (0 .. 3), WORKERS (but by 0)");
        e.workers(0, 0, 0);
        for (String call : new String[] {
            "plan(-2, 0)", "plan(4, 0)", "plan(least, 0)", "plan(most, 0)", "plan(1, -1)", "plan(1, -10)",
            "plan(1, 3)", "plan(1, 9)", "plan(1, 30)", "plan(1, 33)", "plan(1, 13)", "plan(1, 31)", "plan(1, 101)",
            "plan(1, most)", "plan(1, least)", "plan(2, -1)", "plan(2, 3)", "plan(2, most)", "plan(3, -1)",
            "plan(3, 3)", "plan(3, least)"}) {
            e.is(call, NONE);
        }
        e.is("plan(0, 3)", 1);
        e.is("plan(0, -1)", 2);
        e.is("plan(1, 2)", 3);
        e.is("plan(1, 20)", 4);
        e.is("plan(2, 2)", 5);
        e.is("plan(3, 2)", 6);
        e.promise(20, "BAD: a is b (by 1)");
        e.workers(0, 0, 0);
        e.is("plan(1, 0)", BAD);
        e.is("plan(1, 11)", BAD);
        e.is("plan(1, 22)", BAD);
        e.is("plan(0, 11)", 1);
        e.promise(20, "FULL: 10.");
        e.workers(0, 0);
        for (int i = 1; i <= 10; i++) {
            e.is("plan(" + i % 4 + ", 1)", i);
        }
        e.is("plan(0, 0)", FULL);
        e.is("plan(1, 1)", FULL);
        e.is("plan(2, 1)", FULL);
        e.is("plan(3, 1)", FULL);
        e.is("plan(1, 0)", BAD);
        e.is("plan(3, 2)", NONE);
        e.is("plan(4, 0)", NONE);
        e.is("plan(-1, 0)", 0);
        e.is("plan(0, 0)", 1);
    }

    private void ends() {
        e.promise(21, "ENDS: what 0 HOLES, 1 TEMPER of all.");
        e.workers(0, 3);
        e.make("set(0, 1023)");
        e.works("sour 99 p<9");
        e.is("ends(0)", 10);
        e.is("ends(1)", -99 - 44);
        e.make("plan(1, 1)", "plan(0, 0)");
        e.is("ends(0)", 11);
        // HAND with CARD 1, where it made a HOLE; OLD with CARD 0.
        e.is("ends(1)", -90 - 49);
        e.promise(21, "-1001: NONE.");
        e.workers(0);
        e.is("ends(-1)", NO_NUMBER);
        e.is("ends(2)", NO_NUMBER);
        e.is("ends(10)", NO_NUMBER);
        e.is("ends(least)", NO_NUMBER);
        e.is("ends(most)", NO_NUMBER);
    }

    private void book() {
        e.terms("A BOOK told by hand: CARDS, HOLES (bits; 8 at most): LOOKED at: the number of the first of these rows "
            + "by which it is otherwise now (-5: none).");
        e.workers(0, 0);
        e.is("looked()", NOT);
        e.make("set(1, 1023)");
        for (int i = 1; i <= 7; i++) {
            e.is("book(" + i % 2 + ", " + i % 2 * 1023 + ")", i);
            e.is("looked()", NOT);
        }
        e.is("book(0, 1)", 8);
        e.is("looked()", 7);
        e.is("book(0, 0)", FULL);
        e.make("set(1, 511)");
        e.is("looked()", 0);
        e.make("set(1, 1023)", "set(0, 1)");
        e.is("looked()", 1);
        e.make("book(-1, 0)");
        e.is("looked()", NOT);
    }

    private void bookRefused() {
        e.promise(22, "A row comes to the BOOK: how many there are (card -1: it is empty then, 0).");
        e.is("book(-1, 0)", 0);
        e.workers(0, 0);
        e.is("book(1, 1023)", 1);
        e.is("book(0, 0)", 2);
        e.is("book(-1, 1024)", 0);
        e.is("count(4)", 0);
        e.is("looked()", NOT);
        e.is("book(1, 0)", 1);
        e.promise(22, "NONE; BAD: holes; FULL: 8.");
        e.workers(0, 0);
        e.is("book(-2, 0)", NONE);
        e.is("book(2, 0)", NONE);
        e.is("book(2, 1024)", NONE);
        e.is("book(least, 0)", NONE);
        e.is("book(1, -1)", BAD);
        e.is("book(1, 1024)", BAD);
        e.is("book(1, most)", BAD);
        e.is("count(4)", 0);
        for (int i = 1; i <= 8; i++) {
            e.is("book(1, " + i + ")", i);
        }
        e.is("book(1, 0)", FULL);
        e.is("book(1, 1024)", BAD);
        e.is("book(2, 0)", NONE);
        e.is("count(4)", 8);
        e.is("book(-1, 0)", 0);
        e.is("book(1, 0)", 1);
    }

    private void looked() {
        e.promise(23, "LOOKED at; -5.");
        e.workers(0);
        e.is("looked()", NOT);
        e.make("book(0, 0)");
        e.is("looked()", NOT);
        e.make("pass(1)");
        e.is("looked()", 0);
    }
}

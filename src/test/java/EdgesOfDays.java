/** Boundary cases of TEMPER, PUNCHES, DAYS and what is asked of CARDS: promises 10 to 14, and the Terms' words. */
final class EdgesOfDays implements Answers {
    private final Edges e;

    EdgesOfDays(Edges edges) {
        e = edges;
    }

    void ask() {
        temper();
        handAndLate();
        ladAndMinder();
        oldAndTold();
        blinker();
        aDay();
        aRound();
        told();
        pass();
        on();
        full();
    }

    private void temper() {
        e.terms("TEMPER of a WORKER with a CARD (may be below 0): HAND, LATE, BLINKER: MOOD.");
        e.make("worker(0, 9)", "worker(1, 9)", "worker(4, 9)", "set(0, 1)");
        for (int p = 0; p < 3; p++) {
            e.is("of(" + p + ", 10)", 9);
            e.is("of(" + p + ", 12)", 10);
        }
        e.works("sour 13 p<9");
        for (int p = 0; p < 3; p++) {
            e.is("of(" + p + ", 10)", -4);
            e.is("of(" + p + ", 12)", -3);
        }
        e.terms("LAD, MINDER: MOOD, and v, if it is another's CARD.");
        e.make("worker(2, 9)", "worker(5, 0)", "worker(5, 9)", "worker(2, 0)");
        int[] v = {9, 0, 9, 0};
        for (int p = 0; p < 4; p++) {
            for (int c = 0; c < 4; c++) {
                e.is("of(" + p + ", " + (10 + c) + ")", p == c ? 10 : 10 + v[p]);
            }
        }
        e.make("swap(0, 1)");
        e.is("of(0, 5)", 19);
        e.make("swap(0, 1)");
        e.is("of(0, 5)", 10);
        e.works("sour 30 p<9");
        e.is("of(0, 11)", -11);
        e.terms("OLD, TOLD: the half (cut toward 0) of MOOD.");
        half(9, 0);
        half(8, 1);
        half(7, 1);
        half(10, 0);
        half(11, 0);
        half(12, -1);
        half(13, -1);
        half(14, -2);
    }

    /** TEMPER by a MOOD of 10 less sour. */
    private void half(int sour, int due) {
        e.anew();
        e.workers(3, 6);
        e.works("sour " + sour + " p<9");
        e.is("of(0, 5)", due);
        e.is("of(1, 5)", due);
        e.is("of(1, 10)", due);
    }

    /** PUNCHES of 0 on this DAY, and, if it is not AT HOME, the HOLES that there are behind it on an empty CARD. */
    private void punches(int kind, int v, int day, int due) {
        e.anew();
        e.make("worker(" + kind + ", " + v + ")", "stay(0, true)");
        e.days(day);
        e.is("of(0, 6)", due);
        e.make("stay(0, false)", "pass(1)");
        e.is("told(10)", due);
    }

    private void handAndLate() {
        e.terms("PUNCHES of a WORKER on a CARD on a DAY (SLOTS, as bits): HAND: DAY modulo 10.");
        punches(0, 7, 0, 1);
        punches(0, 7, 1, 2);
        punches(0, 7, 9, 512);
        punches(0, 7, 10, 1);
        punches(0, 7, 99, 512);
        punches(0, 7, 100, 1);
        punches(0, 7, 9998, 256);
        e.terms("LATE: as HAND; none, if DAY is a multiple of 3.");
        punches(1, 7, 0, 0);
        punches(1, 7, 1, 2);
        punches(1, 7, 2, 4);
        punches(1, 7, 3, 0);
        punches(1, 7, 9, 0);
        punches(1, 7, 10, 1);
        punches(1, 7, 19, 512);
        punches(1, 7, 9996, 0);
        punches(1, 7, 9998, 256);
    }

    private void ladAndMinder() {
        e.terms("LAD: v and DAY, together, modulo 10.");
        punches(2, 0, 0, 1);
        punches(2, 9, 0, 512);
        punches(2, 9, 1, 1);
        punches(2, 9, 9, 256);
        punches(2, 1, 9, 1);
        punches(2, 3, 9996, 512);
        punches(2, 3, 9997, 1);
        e.terms("MINDER: as LAD; if there is a HOLE, the SLOT 5 further (modulo 10) in place of it.");
        punches(5, 9, 0, 512);
        punches(5, 9, 1, 1);
        for (int v = 0; v < 10; v++) {
            e.anew();
            e.make("worker(5, " + v + ")", "set(0, " + (1 << v) + ")");
            int further = v < 5 ? v + 5 : v - 5;
            e.is("of(0, 6)", 1 << further);
            e.make("set(0, " + (1023 - (1 << v)) + ")");
            e.is("of(0, 6)", 1 << v);
            e.make("set(0, 1023)");
            e.is("of(0, 6)", 1 << further);
            e.make("set(0, " + (1 << v) + ")", "pass(1)");
            e.is("told(10)", (1 << v) + (1 << further));
        }
    }

    private void oldAndTold() {
        e.terms("OLD: the least SLOT without a HOLE there (none, if all have one).");
        holesOfOld(0, 1);
        holesOfOld(1, 2);
        holesOfOld(1022, 1);
        holesOfOld(0b1011, 4);
        holesOfOld(511, 512);
        holesOfOld(1023, 0);
        e.terms("TOLD: as OLD, and the SLOT that its ROW (four numbers 0 .. 9; 0 at first) tells at DAY modulo 4, too.");
        e.workers(6);
        e.is("of(0, 6)", 1);
        e.make("set(0, 1)");
        e.is("of(0, 6)", 3);
        e.is("row(0, 0, 9)", 0);
        e.is("of(0, 6)", 514);
        e.make("set(0, 1023)");
        e.is("of(0, 6)", 512);
        e.make("row(0, 0, 0)", "row(0, 1, 1)", "row(0, 2, 2)", "row(0, 3, 3)", "stay(0, true)");
        for (int day = 0; day < 9; day++) {
            e.is("of(0, 6)", 1 << day % 4);
            e.make("pass(1)");
        }
        e.is("row(0, 0, 10)", BAD);
        e.is("row(0, 0, -1)", BAD);
        e.is("row(0, 4, 0)", NONE);
        e.anew();
        e.workers(6);
        e.make("row(0, 3, 9)");
        e.days(3);
        e.is("told(10)", 7);
        e.make("pass(1)");
        e.is("told(10)", 512 + 15);
    }

    private void holesOfOld(int holes, int due) {
        e.anew();
        e.workers(3);
        e.make("set(0, " + holes + ")");
        e.is("of(0, 6)", due);
        e.make("pass(1)");
        e.is("told(10)", holes + due);
    }

    private void blinker() {
        e.terms("BLINKER: as LATE, and the SLOT behind that, too (behind 9 comes 0; none, if there is none).");
        punches(4, 7, 0, 0);
        punches(4, 7, 1, 6);
        punches(4, 7, 2, 12);
        punches(4, 7, 3, 0);
        punches(4, 7, 8, 256 + 512);
        punches(4, 7, 9, 0);
        punches(4, 7, 10, 3);
        punches(4, 7, 19, 512 + 1);
        punches(4, 7, 29, 512 + 1);
        punches(4, 7, 39, 0);
    }

    private void aDay() {
        e.terms("A DAY goes, by how all is ahead of it: each WORKER not AT HOME PUNCHES the CARD it HAS: "
            + "there are HOLES then. DAY is 1 more.");
        e.workers(0, 3, 5);
        e.make("stay(2, true)", "swap(0, 2)", "set(1, 1)");
        e.is("pass(1)", 1);
        e.is("told(10)", 0);
        e.is("told(11)", 3);
        e.is("told(12)", 1);
        e.make("stay(2, false)", "stay(1, true)");
        e.is("pass(1)", 2);
        e.is("told(10)", 8);
        e.is("told(11)", 3);
        e.is("told(12)", 3);
        e.make("stay(0, true)", "stay(2, true)");
        e.is("pass(60)", 62);
        e.is("told(2)", 5);
    }

    private void aRound() {
        e.terms("If ROUND is above 0 and DAY is a multiple of it then, CARDS go ROUND: "
            + "WORKER p HAS what p and 1 had, the last one what 0 had.");
        roundOf("round 0", 60, 0);
        roundOf("round 1", 0, 0);
        roundOf("round 1", 1, 1);
        roundOf("round 1", 2, 2);
        roundOf("round 1", 3, 0);
        roundOf("round 2", 1, 0);
        roundOf("round 2", 2, 1);
        roundOf("round 2", 3, 1);
        roundOf("round 2", 4, 2);
        roundOf("round 60", 59, 0);
        roundOf("round 60", 60, 1);
        roundOf("round 99", 98, 0);
        roundOf("round 99", 99, 1);
        roundOf("round 99", 198, 2);
        e.anew();
        e.workers(0);
        e.works("round 1");
        e.make("pass(2)");
        e.is("of(0, 3)", 0);
        e.anew();
        e.works("round 1");
        e.is("pass(2)", 2);
        e.make("worker(0, 0)");
        e.is("of(0, 3)", 0);
        e.anew();
        e.workers(0, 0, 0, 0, 0, 0);
        e.works("round 1");
        e.make("swap(0, 5)", "pass(1)");
        int[] cards = {1, 2, 3, 4, 0, 5};
        for (int p = 0; p < 6; p++) {
            e.is("of(" + p + ", 3)", cards[p]);
        }
        punchedAheadOfTheRound();
    }

    /** Three workers whose cards went round so often. */
    private void roundOf(String text, int days, int times) {
        e.anew();
        e.workers(0, 0, 0);
        e.works(text);
        e.days(days);
        for (int p = 0; p < 3; p++) {
            e.is("of(" + p + ", 3)", (p + times) % 3);
        }
    }

    private void punchedAheadOfTheRound() {
        e.anew();
        e.workers(0, 0);
        e.works("round 1");
        e.make("stay(1, true)", "pass(1)");
        e.is("told(10)", 1);
        e.is("told(11)", 0);
        e.make("pass(1)");
        e.is("told(10)", 1);
        e.is("told(11)", 2);
        e.make("pass(1)");
        e.is("told(10)", 5);
        e.terms("Two WORKERS SWAP: each HAS what the other had.");
        e.workers(0, 0, 0);
        e.make("swap(0, 2)", "swap(2, 1)");
        e.is("of(0, 3)", 2);
        e.is("of(1, 3)", 0);
        e.is("of(2, 3)", 1);
        e.make("swap(2, 1)", "swap(2, 0)");
        e.is("told(4)", 0);
    }

    private void told() {
        e.promise(10, "What 0 DAY, 1 ROUND, 2 HOLES of all, together, 3 TEMPER of all, together, 4 SWAPS: how few, "
            + "5 the first of them (-5), 6 TRADE (-5), 10 and c HOLES of CARD c (bits).");
        e.workers(0, 2, 3);
        e.is("told(5)", NOT);
        e.is("told(6)", NOT);
        e.is("told(2)", 0);
        e.is("told(3)", 25);
        e.make("set(0, 1023)", "set(1, 1023)", "set(2, 1023)", "swap(0, 2)");
        e.is("told(0)", 0);
        e.is("told(1)", 0);
        e.is("told(2)", 30);
        e.is("told(3)", 0);
        e.is("told(4)", 1);
        e.is("told(5)", 2);
        e.is("told(6)", NOT);
        e.is("told(10)", 1023);
        e.make("set(2, 512)");
        e.is("told(12)", 512);
        e.works("sour 99 p<9;round 99");
        e.is("told(1)", 99);
        e.is("told(3)", -90 - 99 - 49);
        e.make("pass(60)");
        e.is("told(0)", 60);
        e.promise(10, "-1001: NONE.");
        e.workers(0, 1);
        e.is("told(-1)", NO_NUMBER);
        e.is("told(7)", NO_NUMBER);
        e.is("told(8)", NO_NUMBER);
        e.is("told(9)", NO_NUMBER);
        e.is("told(11)", 0);
        e.is("told(12)", NO_NUMBER);
        e.is("told(16)", NO_NUMBER);
        e.is("told(least)", NO_NUMBER);
        e.is("told(most)", NO_NUMBER);
    }

    private void pass() {
        e.promise(11, "n DAYS (0 .. 60) go: DAY.");
        e.workers(0);
        e.is("pass(0)", 0);
        e.is("told(10)", 0);
        e.is("pass(60)", 60);
        e.is("pass(1)", 61);
        e.is("told(0)", 61);
        e.promise(11, "BAD; STATE: it would be above 9999.");
        e.workers(0);
        e.is("pass(-1)", BAD);
        e.is("pass(61)", BAD);
        e.is("pass(least)", BAD);
        e.is("pass(most)", BAD);
        e.days(9940);
        e.make("set(0, 0)");
        e.is("pass(60)", STATE);
        e.is("pass(61)", BAD);
        e.is("pass(59)", 9999);
        e.is("pass(1)", STATE);
        e.is("pass(60)", STATE);
        e.is("pass(-1)", BAD);
        e.is("pass(0)", 9999);
        e.is("told(0)", 9999);
    }

    private void on() {
        e.terms("ON n DAYS (0 .. 60): HOLES of a CARD; which CARD a WORKER HAS; HOLES of all, together.");
        e.workers(0, 2);
        e.works("round 60");
        e.is("on(0, 10)", 0);
        e.is("on(0, 20)", 0);
        e.is("on(0, 0)", 0);
        e.is("on(1, 10)", 1);
        e.is("on(1, 11)", 2);
        e.is("on(1, 0)", 2);
        e.is("on(59, 20)", 0);
        e.is("on(60, 20)", 1);
        e.is("on(60, 21)", 0);
        e.is("on(60, 10)", 1023);
        e.is("on(60, 0)", 20);
        e.is("on(-1, 0)", BAD);
        e.is("on(61, 0)", BAD);
        e.promise(12, "ON: what 0 HOLES of all, 10 and c HOLES of CARD c (bits), 20 and p the CARD WORKER p HAS.");
        e.workers(0, 0, 0, 0, 0, 0);
        e.make("swap(4, 5)", "stay(3, true)");
        e.is("on(3, 0)", 15);
        e.is("on(3, 10)", 7);
        e.is("on(3, 13)", 0);
        e.is("on(3, 15)", 7);
        e.is("on(3, 20)", 0);
        e.is("on(3, 25)", 4);
        e.promise(12, "NONE; BAD: n.");
        e.workers(0, 0);
        for (String what : new String[] {"-1", "1", "9", "12", "19", "22", "30", "least", "most"}) {
            e.is("on(5, " + what + ")", NONE);
            e.is("on(61, " + what + ")", NONE);
        }
        for (String what : new String[] {"0", "10", "11", "20", "21"}) {
            e.is("on(-1, " + what + ")", BAD);
            e.is("on(61, " + what + ")", BAD);
        }
        e.is("on(least, 0)", BAD);
        e.is("on(most, 0)", BAD);
    }

    private void full() {
        e.terms("FULL of a CARD and q (0 .. 10): the fewest DAYS (0 .. 60) behind which it has q HOLES or more "
            + "(-5: not by then).");
        e.workers(0, 0);
        e.is("full(0, 0)", 0);
        e.is("full(0, 1)", 1);
        e.is("full(0, 9)", 9);
        e.is("full(0, 10)", 10);
        e.make("set(0, 1023)");
        e.is("full(0, 10)", 0);
        e.make("set(0, 511)");
        e.is("full(0, 9)", 0);
        e.is("full(0, 8)", 0);
        e.is("full(0, 10)", 10);
        e.make("stay(0, true)", "set(0, 1)");
        e.is("full(0, 1)", 0);
        e.is("full(0, 2)", NOT);
        e.works("round 59");
        // WORKER 1 HAS CARD 0 from DAY 59 on.
        e.is("full(0, 2)", 60);
        e.is("full(0, 3)", NOT);
        e.works("round 60");
        e.is("full(0, 2)", NOT);
        e.anew();
        e.make("worker(4, 0)");
        // From 0 HOLES on the first DAY that is no multiple of 3 to 2 at once.
        e.is("full(0, 1)", 2);
        e.is("full(0, 2)", 2);
        e.is("full(0, 3)", 3);
        fullRefused();
    }

    private void fullRefused() {
        e.promise(13, "FULL; -5.");
        e.workers(0);
        e.is("full(0, 10)", 10);
        e.make("stay(0, true)");
        e.is("full(0, 0)", 0);
        e.is("full(0, 1)", NOT);
        e.promise(13, "NONE; BAD: q.");
        e.workers(0, 0);
        e.is("full(-1, 0)", NONE);
        e.is("full(2, 0)", NONE);
        e.is("full(2, 11)", NONE);
        e.is("full(least, 0)", NONE);
        e.is("full(1, -1)", BAD);
        e.is("full(1, 11)", BAD);
        e.is("full(1, most)", BAD);
        e.is("full(1, least)", BAD);
    }
}

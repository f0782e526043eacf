/** Boundary cases of SWAPS, RING, TRADE and BEST: promise 14, and what the Terms say of them. */
final class EdgesOfWays implements Answers {
    private final Edges e;

    EdgesOfWays(Edges edges) {
        e = edges;
    }

    void ask() {
        swaps();
        ring();
        tradeBehind20();
        tradeOfSeveral();
        best();
        bestRefused();
    }

    private void swaps() {
        e.terms("SWAPS: how few SWAPS, one behind the other, make each HAVE its own; the first of them: "
            + "the least WORKER who HAS not its own, and who HAS that (10 times the lesser number and the greater; "
            + "-5: there is none).");
        e.is("told(4)", 0);
        e.is("told(5)", NOT);
        e.workers(0, 0, 0, 0, 0, 0);
        e.is("told(4)", 0);
        e.is("told(5)", NOT);
        e.make("swap(4, 5)");
        e.is("told(4)", 1);
        e.is("told(5)", 45);
        e.make("swap(2, 3)");
        e.is("told(4)", 2);
        e.is("told(5)", 23);
        e.make("swap(0, 1)");
        e.is("told(4)", 3);
        e.is("told(5)", 1);
        e.make("swap(0, 1)", "swap(2, 3)", "swap(4, 5)");
        e.is("told(5)", NOT);
        ringOfSix();
        // 0 HAS 1, 1 HAS 2, .. 5 HAS 0: who HAS 0's is 5.
        e.is("told(4)", 5);
        e.is("told(5)", 5);
        e.make("swap(0, 5)");
        e.is("told(4)", 4);
        e.is("told(5)", 15);
        e.make("swap(1, 5)", "swap(2, 5)", "swap(3, 5)");
        e.is("told(4)", 1);
        e.is("told(5)", 45);
        e.make("swap(4, 5)");
        e.is("told(4)", 0);
    }

    private void ringOfSix() {
        e.make("swap(0, 1)", "swap(1, 2)", "swap(2, 3)", "swap(3, 4)", "swap(4, 5)");
    }

    private void ring() {
        e.terms("RING of a WORKER: how many WORKERS there are in the ring from it to whose CARD it HAS, and so on, "
            + "till it is there again.");
        e.workers(0);
        e.is("of(0, 4)", 1);
        e.anew();
        e.workers(0, 0, 0, 0, 0, 0);
        e.is("of(5, 4)", 1);
        ringOfSix();
        e.is("of(0, 4)", 6);
        e.is("of(5, 4)", 6);
        e.make("swap(0, 5)");
        e.is("of(0, 4)", 1);
        e.is("of(1, 4)", 5);
        e.is("of(5, 4)", 5);
        e.make("swap(5, 3)");
        // 1 HAS 2, 2 HAS 3, 3 HAS 1; 4 HAS 5, 5 HAS 4.
        e.is("of(3, 4)", 3);
        e.is("of(4, 4)", 2);
        e.is("of(5, 4)", 2);
    }

    /** An OLD one alone is not AT HOME, and HAS each CARD for 4 DAYS, 0's first. */
    private void oldAlone(int size) {
        e.anew();
        e.make("worker(3, 0)");
        for (int p = 1; p < size; p++) {
            e.make("worker(0, 0)", "stay(" + p + ", true)");
        }
        e.works("round 4");
    }

    private void tradeBehind20() {
        e.terms("TRADE: the two by whose SWAP now the greatest number of HOLES of a CARD behind 20 DAYS is least, "
            + "if less than it is (likewise told; of several the first; -5: none).");
        e.is("told(6)", NOT);
        e.workers(0);
        e.is("told(6)", NOT);
        e.workers(0);
        e.is("told(6)", NOT);
        oldAlone(6);
        e.make("set(0, 511)");
        // Behind 20 DAYS five CARDS were with 0; the sixth comes on the 21st. The other five get 4 HOLES each.
        e.is("told(6)", 5);
        e.make("set(4, 31)");
        // As it is: 10; 0 and 5 by a SWAP: 9 of CARD 0, and 9 of CARD 4.
        e.is("told(6)", 5);
        e.make("set(4, 127)");
        // CARD 4 is full, too, by its turn: whichever comes last, one is.
        e.is("told(6)", NOT);
        oldAlone(5);
        e.make("set(0, 63)");
        // The fifth CARD has all its 4 DAYS by then, so that CARD 0 is full in any turn.
        e.is("told(6)", NOT);
        e.make("set(0, 31)");
        e.is("told(6)", NOT);
    }

    /** A HAND alone is not AT HOME, and HAS each CARD for 5 DAYS, 0's first: it punches 0-4, 5-9, 0-4, 5-9. */
    private void handAlone() {
        e.anew();
        e.workers(0, 0, 0, 0);
        e.make("stay(1, true)", "stay(2, true)", "stay(3, true)");
        e.works("round 5");
    }

    private void tradeOfSeveral() {
        handAlone();
        e.is("told(6)", NOT);
        e.make("set(0, 992)");
        // In the second turn and in the fourth CARD 0 gets no new HOLES.
        e.is("told(6)", 1);
        e.make("set(1, 480)");
        // 0 and 1: CARD 1 has 9 HOLES then; 0 and 3: no CARD has more than 5.
        e.is("told(6)", 3);
        e.make("set(3, 480)");
        // 0 and 1, or 0 and 3: 9 HOLES both.
        e.is("told(6)", 1);
        e.make("set(3, 992)");
        // 0 and 3: CARD 3 is full then.
        e.is("told(6)", 1);
        e.make("set(1, 992)");
        e.is("told(6)", NOT);
        handAlone();
        e.make("set(3, 31)");
        // CARD 3 is spared in the turns 0 and 2.
        e.is("told(6)", 3);
        e.make("set(0, 992)");
        e.is("told(6)", 3);
        e.make("set(2, 992)");
        e.is("told(6)", NOT);
        handAlone();
        e.make("set(2, 992)");
        e.is("told(6)", 12);
        e.make("set(1, 31)");
        e.is("told(6)", 12);
        e.make("swap(1, 2)");
        e.is("told(6)", NOT);
    }

    private void best() {
        e.terms("BEST: of all ways to HAVE all CARDS that by which TEMPER of all, together, is greatest "
            + "(of several the first as a row by WORKERS): how much; the CARD of one.");
        e.is("best(0)", 0);
        e.workers(0, 0, 0, 0, 0, 0);
        e.make("swap(0, 5)", "swap(1, 2)");
        e.is("best(0)", 60);
        bestRow(0, 1, 2, 3, 4, 5);
        e.works("glad 9 p=5&c=0;sour 9 p=0&c=1");
        e.is("best(0)", 69);
        bestRow(2, 1, 3, 4, 5, 0);
        e.anew();
        e.make("worker(2, 1)", "worker(2, 1)", "worker(2, 1)");
        // None with its own: 1 2 0, or 2 0 1.
        e.is("best(0)", 33);
        bestRow(1, 2, 0);
        e.works("glad 1 p=2&c=1");
        e.is("best(0)", 34);
        bestRow(2, 0, 1);
        e.works("sour 99 p<9");
        e.is("best(0)", 33 - 297);
        bestRow(1, 2, 0);
        e.anew();
        e.make("worker(3, 0)", "worker(0, 0)", "set(0, 1)");
        // OLD: 4 by CARD 0, 5 by CARD 1; HAND: 10 by CARD 1, 9 by CARD 0.
        e.is("best(0)", 14);
        bestRow(0, 1);
        e.make("set(0, 3)");
        e.is("best(0)", 14);
        bestRow(0, 1);
    }

    private void bestRow(int... cards) {
        for (int p = 0; p < cards.length; p++) {
            e.is("best(" + (10 + p) + ")", cards[p]);
        }
    }

    private void bestRefused() {
        e.promise(14, "BEST: what 0 how much, 10 and p the CARD of WORKER p.");
        e.workers(0);
        e.works("sour 99 p=0");
        e.is("best(0)", -89);
        e.is("best(10)", 0);
        e.promise(14, "-1001: NONE.");
        e.workers(0, 0);
        for (String what : new String[] {"-1", "1", "9", "12", "16", "20", "least", "most"}) {
            e.is("best(" + what + ")", NO_NUMBER);
        }
        e.is("best(11)", 1);
    }
}

/** Boundary cases of TAPES and of JUDGED: promises 24 and 31 to 34, and what the Terms say of them. */
final class EdgesOfTapes implements Answers {
    private final Edges e;

    EdgesOfTapes(Edges edges) {
        e = edges;
    }

    void ask() {
        tapes();
        judged();
        judge();
        refusals();
        tape();
        item();
        read();
        shift();
        shiftRefused();
    }

    private void tapes() {
        e.terms("TAPES 0 .. 5 hold nothing (at first), or a row of 0 bytes, 1 shorts, 2 ints, 3 longs, 4 booleans "
            + "(items 0, 1).");
        for (int t = 0; t <= 5; t++) {
            e.is("read(" + t + ", 0)", NO);
            e.is("item(" + t + ", 0, 0)", NOTHING);
        }
        e.is("tape(-1, 0, 1)", NONE);
        e.is("tape(6, 0, 1)", NONE);
        for (int t = 0; t <= 4; t++) {
            e.is("tape(" + t + ", " + t + ", 1)", 1);
            e.make("item(" + t + ", 0, most)");
        }
        e.is("tape(5, 5, 1)", BAD);
        e.is("read(5, 0)", NO);
        e.is("tape(5, 4, 1)", 1);
        e.is("read(5, 0)", 0);
        long[] items = {-1, -1, -1, Long.MAX_VALUE, 1};
        for (int t = 0; t <= 4; t++) {
            e.is("read(" + t + ", 0)", items[t]);
        }
    }

    private void judged() {
        e.terms("HOLES told by a row of shorts, from a place on, CARD by CARD, are JUDGED: the first that is otherwise; "
            + "-5: none, or there are no CARDS; 100 and how many were looked at, if the row ends ahead of that "
            + "(or the place is below 0, or the TAPE holds nothing).");
        e.is("judge(0, 0)", NOT);
        e.is("judge(0, -1)", NOT);
        e.make("tape(0, 1, 0)");
        e.is("judge(0, 0)", NOT);
        e.is("judge(0, 99)", NOT);
        e.make("worker(0, 0)", "worker(0, 0)", "worker(0, 0)", "set(0, 1023)", "set(1, 512)", "set(2, 1)");
        e.is("judge(1, 0)", 100);
        e.is("judge(0, 0)", 100);
        e.make("tape(0, 1, 4)", "item(0, 0, 7)", "item(0, 1, 1023)", "item(0, 2, 512)", "item(0, 3, 1)");
        e.is("judge(0, 1)", NOT);
        e.is("judge(0, 0)", 0);
        e.is("judge(0, 2)", 0);
        e.is("judge(0, 4)", 100);
        e.is("judge(0, 5)", 100);
        e.is("judge(0, -1)", 100);
        e.make("item(0, 3, 0)");
        e.is("judge(0, 1)", 2);
        e.make("item(0, 2, 0)");
        e.is("judge(0, 1)", 1);
        e.make("item(0, 2, 1023)", "item(0, 3, 512)");
        e.is("judge(0, 2)", 102);
        e.make("item(0, 3, 1023)");
        e.is("judge(0, 3)", 101);
        e.is("judge(0, 2)", 1);
        // The lowest bits alone are no HOLES.
        e.make("item(0, 1, 1023)", "item(0, 2, 512)", "item(0, 3, 1025)");
        e.is("judge(0, 1)", 2);
        e.make("tape(0, 1, 60)", "item(0, 57, 1023)", "item(0, 58, 512)", "item(0, 59, 1)");
        e.is("judge(0, 57)", NOT);
        e.make("item(0, 58, 1023)", "item(0, 59, 512)");
        e.is("judge(0, 58)", 102);
    }

    private void judge() {
        e.promise(24, "JUDGED from place i of a TAPE on.");
        e.workers(0);
        e.make("tape(5, 1, 2)", "item(5, 0, 1)");
        e.is("judge(5, 0)", 0);
        e.is("judge(5, 1)", NOT);
        e.is("judge(5, 2)", 100);
        e.is("judge(5, least)", 100);
        e.is("judge(5, most)", 100);
        e.promise(24, "NONE: tape; CAST: it is no row of shorts.");
        e.is("judge(-1, 0)", NONE);
        e.is("judge(6, 0)", NONE);
        e.is("judge(least, 0)", NONE);
        e.is("judge(most, 0)", NONE);
        for (int sort : new int[] {0, 2, 3, 4}) {
            e.make("tape(0, " + sort + ", 0)");
            e.is("judge(0, 0)", CAST);
            e.is("judge(0, -1)", CAST);
        }
        e.workers(0);
        for (int sort : new int[] {0, 2, 3, 4}) {
            e.make("tape(0, " + sort + ", 1)");
            e.is("judge(0, 0)", CAST);
            e.is("judge(0, 1)", CAST);
        }
        e.make("tape(0, -1, 0)");
        e.is("judge(0, 0)", 100);
    }

    private void refusals() {
        e.terms("The host's refusals: NOTHING (-11): nothing is there; CAST (-12): another sort or KIND; "
            + "PLACE (-13): no such place; SIZE (-14): a size below 0.");
        e.make("worker(0, 0)", "tape(0, 1, 2)", "tape(1, 2, 2)");
        e.is("item(2, 0, 0)", -11);
        e.is("shift(0, 0, 2, 0, 0)", -11);
        e.is("taken(1, 0)", -11);
        e.is("shift(0, 0, 1, 0, 0)", -12);
        e.is("judge(1, 0)", -12);
        e.is("taken(0, 1)", -12);
        e.is("item(0, 2, 0)", -13);
        e.is("item(0, -1, 0)", -13);
        e.is("shift(0, 0, 0, 1, 2)", -13);
        e.is("tape(2, 0, -1)", -14);
    }

    private void tape() {
        e.promise(31, "A TAPE becomes a row of n (0 .. 60) of a sort, all 0, or holds nothing "
            + "(sort -1: n does not matter): 1.");
        e.is("tape(0, 3, 0)", 1);
        e.is("read(0, 0)", NO);
        e.is("item(0, 0, 0)", PLACE);
        e.is("tape(0, 3, 60)", 1);
        e.is("read(0, 59)", 0);
        e.is("read(0, 60)", NO);
        e.make("item(0, 0, 5)", "item(0, 1, 6)", "item(0, 59, 7)");
        e.is("tape(0, 3, 1)", 1);
        e.is("read(0, 0)", 0);
        e.is("read(0, 1)", NO);
        e.is("tape(0, 3, 60)", 1);
        e.is("read(0, 1)", 0);
        e.is("read(0, 59)", 0);
        e.make("tape(1, 2, 60)", "item(1, 0, 8)");
        e.is("tape(0, 2, 60)", 1);
        e.is("read(1, 0)", 8);
        for (String n : new String[] {"0", "-1", "61", "least", "most"}) {
            e.make("tape(1, 2, 1)");
            e.is("tape(1, -1, " + n + ")", 1);
            e.is("read(1, 0)", NO);
            e.is("item(1, 0, 0)", NOTHING);
        }
        e.is("tape(1, -1, 0)", 1);
        e.promise(31, "NONE: tape; BAD: sort, n above 60; SIZE.");
        e.is("tape(-1, 0, 1)", NONE);
        e.is("tape(6, 0, 1)", NONE);
        e.is("tape(6, -1, 1)", NONE);
        e.is("tape(6, 5, 61)", NONE);
        e.is("tape(least, 0, 1)", NONE);
        e.make("tape(0, 3, 2)", "item(0, 1, 9)");
        e.is("tape(0, 5, 1)", BAD);
        e.is("tape(0, -2, 1)", BAD);
        e.is("tape(0, 5, -1)", BAD);
        e.is("tape(0, least, 1)", BAD);
        e.is("tape(0, 3, 61)", BAD);
        e.is("tape(0, 3, most)", BAD);
        e.is("tape(0, 3, -1)", SIZE);
        e.is("tape(0, 3, least)", SIZE);
        e.is("read(0, 1)", 9);
    }

    /** An item of a sort that becomes v. */
    private void fits(int sort, long v, long due) {
        e.anew();
        e.make("tape(3, " + sort + ", 3)", "item(3, 0, 1)", "item(3, 2, 1)");
        e.is("item(3, 1, " + v + ")", 1);
        e.is("read(3, 1)", due);
        e.is("read(3, 0)", 1);
        e.is("read(3, 2)", 1);
    }

    private void item() {
        e.promise(32, "Item i of a TAPE becomes v (its lowest bits, as many as an item has; "
            + "booleans: whether v is not 0): 1.");
        fits(0, 127, 127);
        fits(0, 128, -128);
        fits(0, -128, -128);
        fits(0, -129, 127);
        fits(0, 256, 0);
        fits(0, Long.MAX_VALUE, -1);
        fits(1, 32767, 32767);
        fits(1, 32768, -32768);
        fits(1, -32769, 32767);
        fits(1, 65536, 0);
        fits(2, 2147483647L, 2147483647L);
        fits(2, 2147483648L, -2147483648L);
        fits(2, -2147483649L, 2147483647L);
        fits(2, 4294967296L, 0);
        fits(3, Long.MAX_VALUE, Long.MAX_VALUE);
        fits(3, Long.MIN_VALUE, Long.MIN_VALUE);
        fits(4, 0, 0);
        fits(4, 1, 1);
        fits(4, 2, 1);
        fits(4, -1, 1);
        fits(4, 4294967296L, 1);
        fits(4, Long.MIN_VALUE, 1);
        e.anew();
        e.make("tape(0, 3, 60)");
        e.is("item(0, 59, 5)", 1);
        e.is("item(0, 0, 6)", 1);
        e.is("read(0, 59)", 5);
        e.is("read(0, 0)", 6);
        e.promise(32, "NONE; NOTHING; PLACE.");
        e.is("item(-1, 0, 1)", NONE);
        e.is("item(6, 0, 1)", NONE);
        e.is("item(0, 0, 1)", NOTHING);
        e.is("item(0, -1, 1)", NOTHING);
        e.make("tape(0, 3, 2)", "tape(1, 3, 2)");
        e.is("item(0, -1, 1)", PLACE);
        e.is("item(0, 2, 1)", PLACE);
        e.is("item(1, -1, 1)", PLACE);
        e.is("item(1, 60, 1)", PLACE);
        e.is("item(0, least, 1)", PLACE);
        e.is("item(0, most, 1)", PLACE);
        e.is("item(6, 2, 1)", NONE);
    }

    private void read() {
        e.promise(33, "Item i of a TAPE. NO: no such TAPE, nothing there, no such place.");
        e.is("read(-1, 0)", NO);
        e.is("read(6, 0)", NO);
        e.is("read(least, most)", NO);
        e.is("read(5, 0)", NO);
        e.make("tape(5, 3, 60)", "item(5, 59, least)", "item(5, 0, most)");
        e.is("read(5, 0)", Long.MAX_VALUE);
        e.is("read(5, 58)", 0);
        e.is("read(5, -1)", NO);
        e.is("read(5, 60)", NO);
        e.is("read(5, least)", NO);
        e.is("read(5, most)", NO);
        e.make("tape(4, 0, 1)");
        e.is("read(4, 0)", 0);
        e.is("read(4, 1)", NO);
    }

    private void row(int tape, int... items) {
        e.make("tape(" + tape + ", 2, " + items.length + ")");
        for (int i = 0; i < items.length; i++) {
            e.make("item(" + tape + ", " + i + ", " + items[i] + ")");
        }
    }

    private void rowIs(int tape, int... items) {
        for (int i = 0; i < items.length; i++) {
            e.is("read(" + tape + ", " + i + ")", items[i]);
        }
        e.is("read(" + tape + ", " + items.length + ")", NO);
    }

    private void shift() {
        e.promise(34, "n items of a TAPE from i on come to another one (or the same) from j on, "
            + "as they all were before: n.");
        row(0, 1, 2, 3, 4, 5);
        row(5, 6, 7, 8);
        e.is("shift(0, 2, 5, 0, 3)", 3);
        rowIs(5, 3, 4, 5);
        rowIs(0, 1, 2, 3, 4, 5);
        e.is("shift(5, 0, 0, 2, 0)", 0);
        e.is("shift(0, 5, 5, 3, 0)", 0);
        rowIs(5, 3, 4, 5);
        e.is("shift(0, 0, 0, 1, 4)", 4);
        rowIs(0, 1, 1, 2, 3, 4);
        e.is("shift(0, 2, 0, 0, 3)", 3);
        rowIs(0, 2, 3, 4, 3, 4);
        e.is("shift(0, 0, 0, 0, 5)", 5);
        rowIs(0, 2, 3, 4, 3, 4);
        e.make("tape(1, 3, 60)", "tape(2, 3, 60)", "item(1, 0, 5)", "item(1, 59, 6)");
        e.is("shift(1, 0, 2, 0, 60)", 60);
        e.is("read(2, 0)", 5);
        e.is("read(2, 59)", 6);
        e.make("tape(3, 4, 0)");
        e.is("shift(3, 0, 3, 0, 0)", 0);
    }

    private void shiftRefused() {
        e.promise(34, "NONE: tapes; NOTHING; CAST: of unlike sorts");
        e.make("tape(0, 2, 3)", "tape(1, 3, 3)");
        e.is("shift(-1, 0, 0, 0, 0)", NONE);
        e.is("shift(6, 0, 0, 0, 0)", NONE);
        e.is("shift(0, 0, -1, 0, 0)", NONE);
        e.is("shift(0, 0, 6, 0, 0)", NONE);
        e.is("shift(2, 0, 6, 0, 0)", NONE);
        e.is("shift(2, 0, 0, 0, 0)", NOTHING);
        e.is("shift(0, 0, 2, 0, 0)", NOTHING);
        e.is("shift(2, 0, 2, 0, -1)", NOTHING);
        e.is("shift(0, 0, 1, 0, 0)", CAST);
        e.is("shift(1, 9, 0, 9, 9)", CAST);
        e.promise(34, "PLACE: n, i or j is below 0, or beyond either's end.");
        row(0, 1, 2, 3, 4);
        row(1, 5, 6, 7);
        for (String call : new String[] {
            "shift(0, 0, 1, 0, -1)", "shift(0, -1, 1, 0, 1)", "shift(0, 0, 1, -1, 1)", "shift(0, 2, 1, 0, 3)",
            "shift(0, 4, 1, 0, 1)", "shift(0, 5, 1, 0, 0)", "shift(0, 0, 1, 0, 4)", "shift(0, 0, 1, 1, 3)",
            "shift(0, 0, 1, 3, 1)", "shift(0, 0, 1, 4, 0)", "shift(0, 1, 0, 0, 4)", "shift(0, 0, 0, 1, 4)",
            "shift(0, most, 1, 0, 1)", "shift(0, 0, 1, most, 1)", "shift(0, 1, 1, 1, most)", "shift(0, 0, 1, 0, least)",
            "shift(0, least, 1, 0, 1)", "shift(0, least, 1, least, least)", "shift(0, most, 1, most, most)",
            "shift(1, 0, 0, 0, 4)", "shift(1, 3, 0, 0, 1)"}) {
            e.is(call, PLACE);
        }
        rowIs(0, 1, 2, 3, 4);
        rowIs(1, 5, 6, 7);
    }
}

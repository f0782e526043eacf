/** Promises 31 to 34: tape, item, read, shift. */
public final class TapesTest {
    private static final Expect expect = new Expect();

    public static void main(String[] args) {
        tape();
        item();
        read();
        shift();
        shiftWithin();
        expect.end();
    }

    private static void tape() {
        expect.part("promise 31");
        PunchedSouls x = new PunchedSouls();
        expect.is("tape(-1, 0, 0)", -1, x.tape(-1, 0, 0));
        expect.is("tape(6, 9, 99)", -1, x.tape(6, 9, 99));
        expect.is("tape(6, -1, 0)", -1, x.tape(6, -1, 0));
        expect.is("tape(0, 5, 0)", -2, x.tape(0, 5, 0));
        expect.is("tape(0, -2, 0)", -2, x.tape(0, -2, 0));
        expect.is("tape(0, 5, -1)", -2, x.tape(0, 5, -1));
        expect.is("tape(0, 0, 61)", -2, x.tape(0, 0, 61));
        expect.is("tape(0, 0, most)", -2, x.tape(0, 0, Runs.MOST));
        expect.is("tape(0, 0, -1)", -14, x.tape(0, 0, -1));
        expect.is("tape(0, 4, least)", -14, x.tape(0, 4, Runs.LEAST));
        expect.is("still nothing there", -11, x.item(0, 0, 0));
        expect.is("tape(0, 3, 60)", 1, x.tape(0, 3, 60));
        expect.is("item(0, 59, 7)", 1, x.item(0, 59, 7));
        expect.is("tape(0, 3, -1) leaves it", -14, x.tape(0, 3, -1));
        expect.is("read(0, 59)", 7, x.read(0, 59));
        expect.is("tape(0, 3, 60) anew", 1, x.tape(0, 3, 60));
        expect.is("all 0", 0, x.read(0, 59));
        x.item(0, 5, 9);
        expect.is("tape(0, 3, 5)", 1, x.tape(0, 3, 5));
        expect.is("read(0, 5)", Runs.NO, x.read(0, 5));
        expect.is("tape(0, 3, 6)", 1, x.tape(0, 3, 6));
        expect.is("read(0, 5)", 0, x.read(0, 5));
        expect.is("tape(5, 0, 0)", 1, x.tape(5, 0, 0));
        expect.is("an empty row is no place", -13, x.item(5, 0, 0));
        x.tape(5, 0, 3);
        expect.is("tape(5, -1, most)", 1, x.tape(5, -1, Runs.MOST));
        expect.is("read(5, 0)", Runs.NO, x.read(5, 0));
        expect.is("nothing", -11, x.item(5, 0, 0));
        expect.is("tape(5, -1, least)", 1, x.tape(5, -1, Runs.LEAST));
    }

    private static void kept(int sort, long v, long due) {
        PunchedSouls x = new PunchedSouls();
        x.tape(2, sort, 3);
        expect.is("item of sort " + sort, 1, x.item(2, 1, v));
        expect.is(v + " in sort " + sort, due, x.read(2, 1));
        expect.is("beside it", 0, x.read(2, 0));
        expect.is("beside it", 0, x.read(2, 2));
    }

    private static void item() {
        expect.part("promise 32");
        kept(0, 127, 127);
        kept(0, 128, -128);
        kept(0, -129, 127);
        kept(0, 0x1234567890ABCDEFL, (byte) 0xEF);
        kept(1, 32767, 32767);
        kept(1, 32768, -32768);
        kept(1, 0x1234567890ABCDEFL, (short) 0xCDEF);
        kept(2, Integer.MAX_VALUE, Integer.MAX_VALUE);
        kept(2, 0x80000000L, Integer.MIN_VALUE);
        kept(2, 0x1234567890ABCDEFL, 0x90ABCDEF);
        kept(3, 0x1234567890ABCDEFL, 0x1234567890ABCDEFL);
        kept(3, Long.MIN_VALUE, Long.MIN_VALUE);
        kept(4, 0, 0);
        kept(4, 1, 1);
        kept(4, 2, 1);
        kept(4, -1, 1);
        kept(4, 1L << 40, 1);
        PunchedSouls x = new PunchedSouls();
        expect.is("item(-1, 0, 0)", -1, x.item(-1, 0, 0));
        expect.is("item(6, 0, 0)", -1, x.item(6, 0, 0));
        expect.is("item(0, -1, 0)", -11, x.item(0, -1, 0));
        x.tape(0, 0, 2);
        expect.is("item(0, -1, 0)", -13, x.item(0, -1, 0));
        expect.is("item(0, 2, 0)", -13, x.item(0, 2, 0));
        expect.is("item(0, most, 0)", -13, x.item(0, Runs.MOST, 0));
        expect.is("item(0, least, 0)", -13, x.item(0, Runs.LEAST, 0));
    }

    private static void read() {
        expect.part("promise 33");
        PunchedSouls x = new PunchedSouls();
        expect.is("read(-1, 0)", Runs.NO, x.read(-1, 0));
        expect.is("read(6, 0)", Runs.NO, x.read(6, 0));
        expect.is("read(0, 0)", Runs.NO, x.read(0, 0));
        for (int tape = 0; tape < 6; tape++) {
            x.tape(tape, 2, 60);
        }
        for (int tape = 0; tape < 6; tape++) {
            x.item(tape, 0, 100 + tape);
            x.item(tape, 59, 200 + tape);
        }
        for (int tape = 0; tape < 6; tape++) {
            expect.is("read(" + tape + ", 0)", 100 + tape, x.read(tape, 0));
            expect.is("read(" + tape + ", 1)", 0, x.read(tape, 1));
            expect.is("read(" + tape + ", 59)", 200 + tape, x.read(tape, 59));
            expect.is("read(" + tape + ", 60)", Runs.NO, x.read(tape, 60));
            expect.is("read(" + tape + ", -1)", Runs.NO, x.read(tape, -1));
        }
    }

    private static void shift() {
        expect.part("promise 34");
        PunchedSouls x = new PunchedSouls();
        expect.is("shift(-1, 0, 0, 0, 0)", -1, x.shift(-1, 0, 0, 0, 0));
        expect.is("shift(0, 0, 6, 0, 0)", -1, x.shift(0, 0, 6, 0, 0));
        expect.is("shift(0, 0, 1, 0, 0)", -11, x.shift(0, 0, 1, 0, 0));
        x.tape(0, 2, 5);
        expect.is("shift(0, 0, 1, 0, -1)", -11, x.shift(0, 0, 1, 0, -1));
        expect.is("shift(1, 0, 0, 0, -1)", -11, x.shift(1, 0, 0, 0, -1));
        x.tape(1, 3, 5);
        expect.is("shift(0, 0, 1, 0, -1)", -12, x.shift(0, 0, 1, 0, -1));
        x.tape(1, 2, 4);
        expect.is("n below 0", -13, x.shift(0, 0, 1, 0, -1));
        expect.is("i below 0", -13, x.shift(0, -1, 1, 0, 1));
        expect.is("j below 0", -13, x.shift(0, 0, 1, -1, 1));
        expect.is("beyond the one's end", -13, x.shift(0, 3, 1, 0, 3));
        expect.is("beyond the other's end", -13, x.shift(0, 0, 1, 0, 5));
        expect.is("i beyond, none", -13, x.shift(0, 6, 1, 0, 0));
        expect.is("j beyond, none", -13, x.shift(0, 0, 1, 5, 0));
        expect.is("most", -13, x.shift(0, Runs.MOST, 1, Runs.MOST, Runs.MOST));
        expect.is("most of one", -13, x.shift(0, 1, 1, 1, Runs.MOST));
        expect.is("least", -13, x.shift(0, 0, 1, 0, Runs.LEAST));
        expect.is("none at the ends", 0, x.shift(0, 5, 1, 4, 0));
        for (int i = 0; i < 5; i++) {
            x.item(0, i, 10 + i);
        }
        expect.is("shift(0, 2, 1, 1, 3)", 3, x.shift(0, 2, 1, 1, 3));
        int[] due = {0, 12, 13, 14};
        for (int i = 0; i < 4; i++) {
            expect.is("read(1, " + i + ")", due[i], x.read(1, i));
        }
        expect.is("the one is as it was", 12, x.read(0, 2));
        expect.is("shift(1, 0, 0, 1, 4)", 4, x.shift(1, 0, 0, 1, 4));
        expect.is("read(0, 0)", 10, x.read(0, 0));
        expect.is("read(0, 4)", 14, x.read(0, 4));
    }

    private static void shiftWithin() {
        PunchedSouls x = new PunchedSouls();
        x.tape(3, 1, 5);
        for (int i = 0; i < 5; i++) {
            x.item(3, i, i + 1);
        }
        expect.is("onward", 4, x.shift(3, 0, 3, 1, 4));
        int[] onward = {1, 1, 2, 3, 4};
        for (int i = 0; i < 5; i++) {
            expect.is("onward " + i, onward[i], x.read(3, i));
        }
        expect.is("back", 3, x.shift(3, 2, 3, 0, 3));
        int[] back = {2, 3, 4, 3, 4};
        for (int i = 0; i < 5; i++) {
            expect.is("back " + i, back[i], x.read(3, i));
        }
        expect.is("in place", 5, x.shift(3, 0, 3, 0, 5));
        expect.is("in place", 4, x.read(3, 4));
    }
}

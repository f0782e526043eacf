/** Promises 8 to 10: feed, works, told. */
public final class WorksTest {
    private static final Expect expect = new Expect();

    public static void main(String[] args) {
        feed();
        goodTexts();
        faults();
        numbersOfWorks();
        moods();
        told();
        swaps();
        trade();
        expect.end();
    }

    private static void feed() {
        expect.part("promise 8");
        PunchedSouls x = new PunchedSouls();
        expect.is("feed(-1)", -2, x.feed(-1));
        expect.is("feed(128)", -2, x.feed(128));
        expect.is("count(5)", 0, x.count(5));
        expect.is("feed(0)", 1, x.feed(0));
        expect.is("feed(127)", 2, x.feed(127));
        for (int i = 3; i <= 100; i++) {
            expect.is("feed " + i, i, x.feed('0'));
        }
        expect.is("feed behind 100", -4, x.feed('0'));
        expect.is("feed(128) behind 100", -2, x.feed(128));
        expect.is("count(5)", 100, x.count(5));
        expect.is("works()", -10, x.works());
        expect.is("count(5)", 0, x.count(5));
        expect.is("feed behind works()", 1, x.feed('g'));
    }

    private static void good(String text) {
        PunchedSouls x = new PunchedSouls();
        expect.is("works of " + text, 0, Runs.works(x, text));
        expect.is("bytes of THE TEXT", 0, x.count(5));
    }

    private static void goodTexts() {
        expect.part("promise 9, WORKS");
        good("round 0");
        good("round 99");
        good("glad 0 p<0");
        good("sour 99 d>99");
        good("glad 1 p=1|c=1&k=1|v=1&h=1&d=1");
        good("glad 1 !!!!p=1");
        good("glad 1 ((((p=1))))");
        good("glad 1 !(!(p=1)&c<2)|!!(v>3)");
        good("glad 1 (((!p=1)))&!!!!c=1|((((k=1)&v=1)&h=1)&d=1)");
        good("round 1;round 2;round 3;round 4;round 5;round 6;round 7;round 8;round 9;round 10");
        good("glad 10 ((((p=11))))&((((c=11))))&((((k=11))))&((((v=11))))&((((h=11))))&((((d=11))))&p=1&c=1&k=1");
    }

    private static void fault(String text, int at) {
        PunchedSouls x = new PunchedSouls();
        expect.is("works of '" + text + "'", -10 - at, Runs.works(x, text));
        expect.is("bytes of THE TEXT", 0, x.count(5));
        expect.is("WORKS", 0, x.count(1));
    }

    private static void faults() {
        expect.part("promise 9, FAULT");
        fault("", 0);
        fault(" round 1", 0);
        fault("Glad 1 p=1", 0);
        fault(";", 0);
        fault("gl", 2);
        fault("glad", 4);
        fault("glad1 p=1", 4);
        fault("glad ", 5);
        fault("glad  1 p=1", 5);
        fault("glad x", 5);
        fault("glad 1", 6);
        fault("glad 1;round 1", 6);
        fault("glad 12", 7);
        fault("glad 123 p=1", 7);
        fault("glad 1 ", 7);
        fault("glad 1  p=1", 7);
        fault("glad 1 P=1", 7);
        fault("glad 1 )", 7);
        fault("glad 1 p", 8);
        fault("glad 1 p!1", 8);
        fault("glad 1 p<=1", 9);
        fault("glad 1 p=", 9);
        fault("glad 1 p=;", 9);
        fault("glad 1 p=1 ", 10);
        fault("glad 1 p=1)", 10);
        fault("glad 1 p=1!", 10);
        fault("glad 1 p=123", 11);
        fault("glad 1 p=1&", 11);
        fault("glad 1 p=1&&", 11);
        fault("glad 1 p=1|", 11);
        fault("glad 1 p=1;", 11);
        fault("glad 1 p=1;;", 11);
        fault("glad 1 (p=1", 11);
        fault("glad 1 (p=1;", 11);
        fault("glad 1 ()", 8);
        fault("glad 1 !", 8);
        fault("glad 1 !&", 8);
        fault("glad 1 !!!!!p=1", 11);
        fault("glad 1 ((((!p=1))))", 11);
        fault("glad 1 !(!((p=1)))", 11);
        fault("glad 1 !(!(!p=1))", 11);
        fault("glad 1 !((!p=1)&(!!p=1))", 18);
        fault("sou", 3);
        fault("sour 1 p", 8);
        fault("sours 1 p=1", 4);
        fault("round", 5);
        fault("round ", 6);
        fault("round 100", 8);
        fault("round 1 ", 7);
        fault("round 1;", 8);
        fault("round 1;x", 8);
        fault("round -1", 6);
        fault("round 1;round 2;round 3;round 4;round 5;round 6;round 7;round 8;round 9;round 0;", 79);
        fault("round 1;round 2;round 3;round 4;round 5;round 6;round 7;round 8;round 9;round 10;round 1", 80);
        fault("round 1\n", 7);
        fault("round 1\0", 7);
        StringBuilder full = new StringBuilder("glad 1 p=1");
        while (full.length() < 100) {
            full.append("&p=1&p=10");
        }
        good(full.toString());
        fault(full.substring(0, 99) + "&", 100);
    }

    private static void numbersOfWorks() {
        expect.part("promise 9, numbers");
        PunchedSouls x = Runs.souls(0);
        for (int i = 0; i < 6; i++) {
            expect.is("works", i, Runs.works(x, "round " + (i + 1)));
            expect.is("ROUND", i + 1, x.told(1));
            expect.is("a fault between", i == 5 ? -4 : -16, Runs.works(x, "round x"));
            expect.is("the one that held holds", i + 1, x.told(1));
        }
        expect.is("THE TEXT stays", 7, x.count(5));
        expect.is("works() with 6", -4, x.works());
        expect.is("count(1)", 6, x.count(1));
        PunchedSouls empty = new PunchedSouls();
        for (int i = 0; i < 6; i++) {
            Runs.works(empty, "round 1");
        }
        expect.is("FULL ahead of the FAULT", -4, empty.works());
    }

    private static void mood(String text, int due) {
        PunchedSouls x = new PunchedSouls();
        x.worker(0, 0);
        x.worker(1, 5);
        x.set(0, 0b1110);
        x.pass(0);
        Runs.works(x, text);
        expect.is("MOOD of 1 with 0 by " + text, due, x.of(1, 10));
    }

    private static void moods() {
        expect.part("promise 9, MOOD");
        mood("round 5", 7);
        mood("glad 20 p=1", 27);
        mood("glad 20 p=0", 7);
        mood("glad 20 c=0", 27);
        mood("glad 20 c=1", 7);
        mood("glad 20 k=1", 27);
        mood("glad 20 v=5", 27);
        mood("glad 20 v=05", 27);
        mood("glad 20 h=3", 27);
        mood("glad 20 d=0", 27);
        mood("glad 20 v<5", 7);
        mood("glad 20 v<6", 27);
        mood("glad 20 v>5", 7);
        mood("glad 20 v>4", 27);
        mood("sour 20 v=5", -13);
        mood("sour 20 v=5;glad 1 p=1;glad 2 p=1;sour 3 p=1;sour 9 p=0", -13);
        mood("glad 4 !p=1", 7);
        mood("glad 4 !p=0", 11);
        mood("glad 4 !!p=1", 11);
        mood("glad 4 p=0&p=1", 7);
        mood("glad 4 p=1&c=0", 11);
        mood("glad 4 p=0|c=0", 11);
        mood("glad 4 p=0|c=1", 7);
        mood("glad 4 p=1|p=0&p=0", 11);
        mood("glad 4 p=0&p=0|p=1", 11);
        mood("glad 4 (p=1|p=0)&p=0", 7);
        mood("glad 4 !p=1|p=1", 11);
        mood("glad 4 !(p=1|p=1)", 7);
        mood("glad 4 !p=0&p=0", 7);
        mood("glad 4 p=0|p=0|p=1", 11);
        mood("glad 4 p=1&p=1&p=0", 7);
        mood("glad 4 p=0|p=1&(p=0|p=1&(p=0|p=1&(p=0|p=1&(p=1))))", 7 + 4);
        mood("glad 4 p=0|p=1&(p=0|p=1&(p=0|p=1&(p=0|p=1&p=0)))", 7);
        mood("glad 99 p=1;glad 99 p=1;glad 99 p=1;glad 99 p=1", 403);
        PunchedSouls x = Runs.souls(0);
        Runs.works(x, "glad 50 d=3");
        x.stay(0, true);
        x.pass(13);
        expect.is("DAY 13 modulo 10", 60, x.of(0, 5));
        Runs.works(x, "round 1");
        expect.is("the newest holds alone", 10, x.of(0, 5));
    }

    private static void told() {
        expect.part("promise 10");
        PunchedSouls x = Runs.souls(0, 3, 2);
        x.set(0, 0b11);
        x.set(2, 0b1101);
        x.swap(1, 2);
        expect.is("HOLES of all", 5, x.told(2));
        expect.is("TEMPER of all", 8 + 3 + 12, x.told(3));
        expect.is("HOLES of 0", 3, x.told(10));
        expect.is("HOLES of 2", 13, x.told(12));
        expect.is("told(13)", -1001, x.told(13));
        expect.is("told(7)", -1001, x.told(7));
        expect.is("told(9)", -1001, x.told(9));
        expect.is("told(-1)", -1001, x.told(-1));
        expect.is("told(least)", -1001, x.told(Runs.LEAST));
        x.pass(7);
        expect.is("DAY", 7, x.told(0));
        Runs.works(x, "round 3;glad 1 p=1;round 12;glad 1 p=1");
        expect.is("ROUND, the last", 12, x.told(1));
        Runs.works(x, "glad 1 p=1");
        expect.is("ROUND without", 0, x.told(1));
    }

    private static void swaps() {
        expect.part("promise 10, SWAPS");
        PunchedSouls x = Runs.souls(0, 0, 0, 0, 0, 0);
        expect.is("how few", 0, x.told(4));
        expect.is("the first", -5, x.told(5));
        x.swap(2, 5);
        expect.is("how few", 1, x.told(4));
        expect.is("the first", 25, x.told(5));
        x.swap(1, 3);
        expect.is("how few", 2, x.told(4));
        expect.is("the first", 13, x.told(5));
        x.swap(1, 2);
        expect.is("how few, one ring of 4", 3, x.told(4));
        // 1 has 5, 2 has 3, 3 has 1, 5 has 2.
        expect.is("the first", 13, x.told(5));
        x.swap(0, 4);
        expect.is("how few, rings of 4 and 2", 4, x.told(4));
        expect.is("the first", 4, x.told(5));
        x.swap(0, 1);
        expect.is("how few, one ring of 6", 5, x.told(4));
        expect.is("the first, who HAS 0's", 4, x.told(5));
    }

    private static void trade() {
        expect.part("promise 10, TRADE");
        PunchedSouls x = Runs.souls(0, 3);
        expect.is("two that fill their cards", -5, x.told(6));
        PunchedSouls full = Runs.souls(0, 0, 0);
        full.stay(1, true);
        full.stay(2, true);
        full.set(2, 0b111);
        expect.is("no swap spares: a HAND fills any", -5, full.told(6));
        PunchedSouls none = Runs.souls(0);
        expect.is("one alone", -5, none.told(6));
        // By day 20 a HAND has punched all, unless the card goes round to one at home.
        PunchedSouls round = Runs.souls(0, 0, 0);
        Runs.works(round, "round 5");
        round.stay(1, true);
        round.stay(2, true);
        // CARD 0: 0 .. 4 by 0, then 2 has it, then 1, then 0 again: 5 .. 9 by 0. CARDS 1, 2 get 5 holes each.
        expect.is("HOLES of 0 behind 20", 1023, round.on(20, 10));
        expect.is("HOLES of 1 behind 20", 992, round.on(20, 11));
        expect.is("HOLES of 2 behind 20", 31, round.on(20, 12));
        expect.is("no swap helps: some card comes to 0 twice", -5, round.told(6));
        tradeThatSpares();
    }

    private static void tradeThatSpares() {
        // WORKER 0 alone is not AT HOME; it HAS CARDS 0, 1, 2, 3 for 5 days each, and punches 0-4, 5-9, 0-4, 5-9.
        PunchedSouls x = Runs.souls(0, 0, 0, 0);
        for (int p = 1; p < 4; p++) {
            x.stay(p, true);
        }
        Runs.works(x, "round 5");
        expect.is("all alike, 5 each", -5, x.told(6));
        x.set(0, 992);
        expect.is("of 0 with 1 and 0 with 3 the first", 1, x.told(6));
        x.set(1, 31);
        x.set(2, 992);
        x.set(3, 31);
        expect.is("four in the wrong places, no one swap mends that", -5, x.told(6));
        x.set(1, 992);
        x.set(2, 31);
        // 0 and 1 are spared by the turns 1 and 3 (5-9), 2 and 3 by the turns 0 and 2 (0-4).
        expect.is("the greatest as it is", 1023, x.on(20, 10));
        expect.is("0 with 3", 3, x.told(6));
        x.swap(0, 3);
        expect.is("the greatest then", 992, x.on(20, 10));
        expect.is("none better", -5, x.told(6));
        x.swap(0, 3);
        x.swap(1, 2);
        x.set(1, 0);
        x.set(3, 0);
        // WORKER 1 HAS CARD 2: 0 and 2 are full behind the turns 0 and 1.
        expect.is("told by WORKERS, not by CARDS", 1, x.told(6));
        x.pass(5);
        // WORKER 0 HAS CARD 2 now and will HAVE 1, 3 and 0; CARD 0 is full, so no swap makes less.
        expect.is("a full card", -5, x.told(6));
        x.set(0, 0);
        x.set(3, 31);
        x.set(2, 0);
        // It punches 5-9, 0-4, 5-9, 0-4: the third turn, WORKER 2's, fills CARD 3; 1 or 3 may take it.
        expect.is("1 with 2", 12, x.told(6));
        tradeBehind20();
    }

    /** An OLD one alone is not AT HOME, and has every card for 4 days. */
    private static PunchedSouls oldAndHome(int size, int holesOfCard0) {
        PunchedSouls x = new PunchedSouls();
        x.worker(3, 0);
        for (int p = 1; p < size; p++) {
            x.worker(0, 0);
            x.stay(p, true);
        }
        Runs.works(x, "round 4");
        x.set(0, holesOfCard0);
        return x;
    }

    private static void tradeBehind20() {
        expect.is("the sixth turn begins behind 20", 5, oldAndHome(6, 511).told(6));
        expect.is("the fifth turn ends with 20", -5, oldAndHome(5, 63).told(6));
    }
}

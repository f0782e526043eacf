/** Boundary cases of THE TEXT, WORKS and MOOD: promises 8 and 9, and what the Terms say of them. */
final class EdgesOfTexts implements Answers {
    private static final String ROUND_BY_ROUND = "round 1;round 2;round 3;round 4;round 5;round 6;round 7;round 8;round 9";

    private final Edges e;

    EdgesOfTexts(Edges edges) {
        e = edges;
    }

    void ask() {
        bytes();
        clauses();
        blanks();
        digits();
        either();
        factors();
        signs();
        tests();
        nested();
        fault();
        newest();
        mood();
        round();
        feed();
        works();
    }

    /** 10 bytes, and 18 times 5. */
    private static String hundredBytes() {
        return "glad 7 p=1" + "|p=10".repeat(18);
    }

    private void bytes() {
        e.terms("A WORKS is read from THE TEXT (bytes, 100 at most)");
        e.workers(0, 0);
        e.text(hundredBytes());
        e.is("count(5)", 100);
        e.is("feed(59)", FULL);
        e.is("count(5)", 100);
        e.is("works()", 0);
        e.is("of(1, 5)", 17);
        e.is("of(0, 5)", 10);
        e.anew();
        e.text(hundredBytes().substring(0, 95) + "|p=1&");
        e.is("works()", -110);
    }

    private void clauses() {
        e.terms("CLAUSES, 1 to 10, with ; between");
        e.worksOf("", -10);
        e.worksOf(";", -10);
        e.worksOf("round 1", 0);
        e.worksOf("round 1;", -18);
        e.worksOf("round 1;;", -18);
        e.worksOf(";round 1", -10);
        e.worksOf("round 1 round 2", -17);
        e.worksOf("round 1,round 2", -17);
        e.worksOf("round 1; round 2", -18);
        e.worksOf(ROUND_BY_ROUND + ";round 10", 0);
        e.is("told(1)", 10);
        e.worksOf(ROUND_BY_ROUND + ";round 0;", -89);
        e.worksOf(ROUND_BY_ROUND + ";round 0;round 1", -89);
        e.worksOf(ROUND_BY_ROUND + ";glad 0 p=0;", -92);
        e.worksOf(ROUND_BY_ROUND + ";", -82);
    }

    private void blanks() {
        e.terms("glad n E; sour n E; round n (one blank ahead of each part behind the word");
        e.worksOf("glad 1 p=1", 0);
        e.worksOf("sour 1 p=1", 0);
        e.worksOf("round 1", 0);
        e.worksOf("glad1 p=1", -14);
        e.worksOf("glad  1 p=1", -15);
        e.worksOf("glad 1p=1", -16);
        e.worksOf("glad 1  p=1", -17);
        e.worksOf("glad 1 p=1 ", -20);
        e.worksOf("glad 1 p =1", -18);
        e.worksOf("glad 1 p= 1", -19);
        e.worksOf(" glad 1 p=1", -10);
        e.worksOf("sour1 p=1", -14);
        e.worksOf("sour  1 p=1", -15);
        e.worksOf("sour 11p=1", -17);
        e.worksOf("round1", -15);
        e.worksOf("round  1", -16);
        e.worksOf("round 1 ", -17);
        e.worksOf("round 1 p=1", -17);
        e.worksOf("glad 1", -16);
        e.worksOf("glad 1;", -16);
        e.worksOf("sour 1 ", -17);
        e.worksOf("sour 1 ;", -17);
        e.worksOf("gladd 1 p=1", -14);
        e.worksOf("Round 1", -10);
        e.worksOf("gour 1 p=1", -11);
        e.worksOf("slad 1 p=1", -11);
        e.worksOf("rlad 1 p=1", -11);
    }

    private void digits() {
        e.terms("n 1 or 2 digits)");
        e.worksOf("round ", -16);
        e.worksOf("round x", -16);
        e.worksOf("round -1", -16);
        e.worksOf("round 0", 0);
        e.is("told(1)", 0);
        e.worksOf("round 9", 0);
        e.is("told(1)", 9);
        e.worksOf("round 07", 0);
        e.is("told(1)", 7);
        e.worksOf("round 99", 0);
        e.is("told(1)", 99);
        e.worksOf("round 100", -18);
        e.worksOf("round 007", -18);
        e.worksOf("glad p=1", -15);
        e.worksOf("glad 123 p=1", -17);
        e.worksOf("sour  p=1", -15);
        e.worksOf("sour 123 p=1", -17);
        temper("glad 0 p=0", 10);
        temper("glad 99 p=0", 109);
        temper("sour 00 p=0", 10);
        temper("sour 99 p=0", -89);
    }

    /** TEMPER of a HAND alone, with no HOLES, on DAY 0. */
    private void temper(String text, int due) {
        e.anew();
        e.workers(0);
        e.works(text);
        e.is("of(0, 5)", due);
    }

    private void either() {
        e.terms("E: T or T|E. T: F or F&T.");
        e.worksOf("glad 1 |p=0", -17);
        e.worksOf("glad 1 &p=0", -17);
        e.worksOf("glad 1 p=0|", -21);
        e.worksOf("glad 1 p=0&", -21);
        e.worksOf("glad 1 p=0||p=0", -21);
        e.worksOf("glad 1 p=0&&p=0", -21);
        e.worksOf("glad 1 p=0&|p=0", -21);
        e.worksOf("glad 1 p=0|;", -21);
        e.worksOf("glad 1 p=0p=0", -20);
        temper("glad 5 p=0|p=1&p=1", 15);
        temper("glad 5 p=1&p=1|p=0", 15);
        temper("glad 5 (p=0|p=1)&p=1", 10);
        temper("glad 5 p=1|p=1|p=0", 15);
        temper("glad 5 p=1|p=0|p=1", 15);
        temper("glad 5 p=0&p=0&p=1", 10);
        temper("glad 5 p=0&p=1&p=0", 10);
        temper("glad 5 p=1&p=0|p=0&p=1|p=0&p=0", 15);
        temper("glad 5 p=1&p=0|p=0&p=0|p=0&p=1", 15);
        temper("glad 5 p=1&p=0|p=0&p=1|p=1", 10);
    }

    private void factors() {
        e.terms("F: !F, (E), or a TEST: a letter, < or = or >, a number (1 or 2 digits)");
        e.worksOf("glad 1 ()", -18);
        e.worksOf("glad 1 (", -18);
        e.worksOf("glad 1 )", -17);
        e.worksOf("glad 1 (p=0", -21);
        e.worksOf("glad 1 (p=0;", -21);
        e.worksOf("glad 1 (p=0|)", -22);
        e.worksOf("glad 1 p=0)", -20);
        e.worksOf("glad 1 (p=0))", -22);
        e.worksOf("glad 1 !", -18);
        e.worksOf("glad 1 !)", -18);
        e.worksOf("glad 1 p!=0", -18);
        e.worksOf("glad 1 p=0!", -20);
        e.worksOf("glad 1 p", -18);
        e.worksOf("glad 1 p=", -19);
        e.worksOf("glad 1 p<=0", -19);
        e.worksOf("glad 1 p==0", -19);
        e.worksOf("glad 1 p=-1", -19);
        e.worksOf("glad 1 p=100", -21);
        e.worksOf("glad 1 0=p", -17);
        temper("glad 5 p=00", 15);
        temper("glad 5 p<99", 15);
        temper("glad 5 p>99", 10);
        temper("glad 5 !p=0", 10);
        temper("glad 5 !p=1", 15);
        temper("glad 5 !!p=0", 15);
        temper("glad 5 !p=1&p=1", 10);
        temper("glad 5 !p=0|p=0", 15);
        temper("glad 5 !(p=1&p=1)", 15);
        temper("glad 5 !(p=0|p=0)", 10);
        temper("glad 5 (p=0)", 15);
    }

    /** Each byte in each place of a TEST. */
    private void signs() {
        e.terms("TEST: a letter, < or = or >, a number (1 or 2 digits)");
        for (int i = 0; i < 128; i++) {
            char sign = (char) i;
            boolean isDigit = sign >= '0' && sign <= '9';
            boolean opens = sign == '!' || sign == '(';
            e.worksOf("glad 1 " + sign + "=1", "pckvhd".indexOf(sign) >= 0 ? 0 : opens ? -18 : -17);
            e.worksOf("glad 1 p" + sign + "1", "<=>".indexOf(sign) >= 0 ? 0 : -18);
            e.worksOf("glad 1 p=" + sign, isDigit ? 0 : -19);
            boolean joins = sign == '&' || sign == '|' || sign == ';';
            e.worksOf("glad 1 p=1" + sign, isDigit ? 0 : joins ? -21 : -20);
        }
    }

    private void tests() {
        e.terms("of a WORKER and a CARD p the number of the one, c of the other, k its KIND, v its v, "
            + "h how many HOLES the CARD has, d DAY modulo 10.");
        e.workers(0, 0, 0, 0, 0, 0);
        e.works("glad 1 p=5;glad 2 c=5;glad 4 p=0;glad 8 c=0");
        e.is("of(5, 15)", 13);
        e.is("of(5, 10)", 19);
        e.is("of(0, 15)", 16);
        e.is("of(0, 10)", 22);
        e.anew();
        e.make("worker(6, 9)", "worker(0, 0)");
        e.works("glad 20 k=6;glad 40 v=9;glad 1 k=0;glad 2 v=0");
        e.is("of(0, 5)", 35);
        e.is("of(1, 5)", 13);
        e.works("glad 50 h=10;glad 20 h=0;glad 30 h>9;glad 1 h<1");
        e.is("of(1, 11)", 31);
        e.make("set(1, 1023)");
        e.is("of(1, 11)", 80);
        e.is("of(1, 10)", 31);
        e.make("set(1, 1022)");
        e.is("of(1, 11)", 1);
        relations();
        dayModulo10();
    }

    private void relations() {
        e.anew();
        e.make("worker(0, 5)");
        e.works("glad 1 v<5;glad 2 v<6;glad 4 v=5;glad 8 v>5;glad 16 v>4;glad 32 v=4;glad 64 v=6");
        e.is("of(0, 5)", 10 + 2 + 4 + 16);
    }

    private void dayModulo10() {
        e.anew();
        e.workers(0);
        e.make("stay(0, true)");
        e.works("glad 1 d=0;glad 2 d=9;glad 4 d<1;glad 8 d>8;glad 16 d=10");
        e.is("of(0, 5)", 15);
        e.make("pass(9)");
        e.is("of(0, 5)", 20);
        e.make("pass(1)");
        e.is("of(0, 5)", 15);
        e.make("pass(9)");
        e.is("of(0, 5)", 20);
    }

    private void nested() {
        e.terms("A ( or ! within 4 others is none.");
        e.worksOf("glad 1 ((((p=0))))", 0);
        e.worksOf("glad 1 (((((p=0)))))", -21);
        e.worksOf("glad 1 !!!!p=0", 0);
        e.worksOf("glad 1 !!!!!p=0", -21);
        e.worksOf("glad 1 !(!(p=0))", 0);
        e.worksOf("glad 1 !(!(!p=0))", -21);
        e.worksOf("glad 1 (!(!p=0))", 0);
        e.worksOf("glad 1 (!(!(p=0)))", -21);
        e.worksOf("glad 1 ((((p=0|!p=0))))", -25);
        e.worksOf("glad 1 ((((p=0&(p=0)))))", -25);
        e.worksOf("glad 1 (p=0)&(p=0)&(p=0)&(p=0)&(p=0)", 0);
        e.worksOf("glad 1 !p=0&!p=0&!p=0&!p=0&!p=0", 0);
        e.worksOf("glad 1 ((((p=0)))&(((p=0))))|!!!!p=0", 0);
        e.worksOf("glad 1 ((((p=0)))&((((p=0)))))", -31);
        e.worksOf("glad 1 !!!!p=0|!!!!p=0;sour 1 !!!!p=0", 0);
        temper("glad 5 !!!!p=0", 15);
        temper("glad 5 !!!!p=1", 10);
        temper("glad 5 (p=1|(p=1|(p=1|(p=1|p=0))))", 15);
        temper("glad 5 p=0&(p=0&(p=0&(p=0&(p=0&p=1))))", 10);
        temper("glad 5 p=0&(p=0&(p=0&(p=0&(p=0&p=0))))", 15);
        temper("glad 5 p=0&(p=0&(p=0&(p=0&(p=0))))&p=0", 15);
    }

    /** Every beginning of a WORKS, and a WORKS with one byte that fits nowhere, at every place. */
    private void fault() {
        e.terms("The FAULT: the place of the first byte with which none begins so "
            + "(the end of THE TEXT, if it ends too early).");
        String text = "sour 12 !(p<1|c=22)&k>3;glad 7 h=0;round 15";
        for (int i = 0; i < text.length(); i++) {
            String start = text.substring(0, i);
            boolean isWhole = start.endsWith("c=22)") || start.endsWith("k>3") || start.endsWith("h=0")
                || start.endsWith("round 1");
            e.worksOf(start, isWhole ? 0 : -10 - i);
            e.worksOf(start + (char) 127 + text.substring(i), -10 - i);
            e.worksOf(start + (char) 0 + text.substring(i + 1), -10 - i);
        }
        e.worksOf(text, 0);
        e.worksOf(text + "!", -10 - text.length());
        e.worksOf("xlad 1 p=1;xound", -10);
        e.worksOf("round 1;xlad 1 p=1;xound", -18);
        e.worksOf("round 1;round 2x;round 3x", -25);
    }

    private void newest() {
        e.terms("The newest WORKS holds (6 at most); without one there are no CLAUSES.");
        e.workers(0);
        e.is("of(0, 5)", 10);
        e.is("told(1)", 0);
        e.works("glad 5 p=0;round 9");
        e.is("of(0, 5)", 15);
        e.is("told(1)", 9);
        e.works("round 8");
        e.is("of(0, 5)", 10);
        e.is("told(1)", 8);
        e.works("sour 5 p=0");
        e.is("of(0, 5)", 5);
        e.is("told(1)", 0);
        e.works("round 4");
        e.works("round 5");
        e.is("count(1)", 5);
        e.works("round 6");
        e.is("told(1)", 6);
        e.is("count(1)", 6);
        e.text("round 7");
        e.is("works()", FULL);
        e.is("told(1)", 6);
    }

    private void mood() {
        e.terms("MOOD of a WORKER with a CARD: 10, and the n of all glad whose E holds, less those of all sour, "
            + "less how many HOLES that has, together (may be below 0).");
        e.workers(0, 0);
        e.make("set(0, 1023)");
        e.is("of(0, 10)", 0);
        e.is("of(0, 11)", 10);
        e.make("set(0, 511)");
        e.is("of(0, 10)", 1);
        e.works("sour 1 p=0");
        e.is("of(0, 10)", 0);
        e.is("of(1, 10)", 1);
        e.make("set(0, 1023)");
        e.is("of(0, 10)", -1);
        String sours = "sour 99 p=0" + ";sour 99 p=0".repeat(7);
        e.works(sours);
        e.is("of(0, 10)", -792);
        e.is("of(0, 11)", -782);
        e.is("of(1, 11)", 10);
        e.anew();
        e.workers(0, 0);
        e.works(sours.replace("sour", "glad"));
        e.is("of(0, 10)", 802);
        e.works("glad 30 p=0;sour 50 p=0;glad 7 p=1;sour 9 p=1;glad 1 p<2");
        e.is("of(0, 11)", -9);
        e.is("of(1, 11)", 9);
    }

    private void round() {
        e.terms("ROUND (0 without): the last one's n.");
        e.is("told(1)", 0);
        e.works("glad 9 p=0");
        e.is("told(1)", 0);
        e.works("round 3;round 2");
        e.is("told(1)", 2);
        e.works("round 98;glad 9 p=0");
        e.is("told(1)", 98);
        e.works("round 98;round 0");
        e.is("told(1)", 0);
    }

    private void feed() {
        e.promise(8, "A sign (0 .. 127) comes behind THE TEXT's: how many it has.");
        e.is("feed(0)", 1);
        e.is("feed(127)", 2);
        e.is("count(5)", 2);
        e.is("works()", -10);
        e.is("feed(114)", 1);
        e.promise(8, "BAD; FULL.");
        e.is("feed(-1)", BAD);
        e.is("feed(128)", BAD);
        e.is("feed(least)", BAD);
        e.is("feed(most)", BAD);
        // A byte's lowest bits would be those of a sign.
        e.is("feed(370)", BAD);
        for (int i = 1; i <= 99; i++) {
            e.make("feed(48)");
        }
        e.is("feed(48)", 100);
        e.is("feed(48)", FULL);
        e.is("feed(128)", BAD);
        e.is("feed(-1)", BAD);
        e.is("works()", -10);
        e.is("feed(48)", 1);
    }

    private void works() {
        e.promise(9, "THE TEXT, which is empty then, is a WORKS, and holds: its number.");
        e.text("round 3");
        e.is("works()", 0);
        e.is("count(5)", 0);
        e.is("told(1)", 3);
        e.is("works()", -10);
        for (int i = 1; i <= 5; i++) {
            e.text("round " + i);
            e.is("works()", i);
            e.is("told(1)", i);
        }
        e.promise(9, "FULL: there are 6 (THE TEXT stays)");
        for (int i = 0; i < 6; i++) {
            e.works("round " + (i + 10));
        }
        e.is("works()", FULL);
        e.text("round x");
        e.is("works()", FULL);
        e.is("count(5)", 7);
        e.is("feed(48)", 8);
        e.is("told(1)", 15);
        e.is("count(1)", 6);
        e.promise(9, "-10 less the FAULT (the one that held holds).");
        e.workers(0);
        e.text("x");
        e.is("works()", -10);
        e.is("count(5)", 0);
        e.is("told(1)", 0);
        e.works("glad 5 p=0;round 9");
        e.text("sour 5 p=0;round 8;");
        e.is("works()", -29);
        e.is("count(5)", 0);
        e.is("count(1)", 1);
        e.is("told(1)", 9);
        e.is("of(0, 5)", 15);
        e.text("round 7");
        e.is("works()", 1);
    }
}

/** What the promises' tests share: objects with workers, and texts fed whole. */
final class Runs {
    static final int NO_NUMBER = -1001;
    static final int NOTHING = -11, CAST = -12, PLACE = -13, SIZE = -14;
    static final int LEAST = Integer.MIN_VALUE, MOST = Integer.MAX_VALUE;
    static final long NO = Long.MIN_VALUE;

    private Runs() {
    }

    /** Workers of these kinds, each with its number as its v. */
    static PunchedSouls souls(int... kinds) {
        PunchedSouls souls = new PunchedSouls();
        for (int i = 0; i < kinds.length; i++) {
            souls.worker(kinds[i], i);
        }
        return souls;
    }

    static int works(PunchedSouls souls, String text) {
        feed(souls, text);
        return souls.works();
    }

    static void feed(PunchedSouls souls, String text) {
        for (char sign : text.toCharArray()) {
            souls.feed(sign);
        }
    }

    /** The cards that workers have, 0's first, as the digits of a number behind a 1. */
    static int cards(PunchedSouls souls) {
        int digits = 1;
        for (int p = 0; p < souls.count(0); p++) {
            digits = 10 * digits + souls.of(p, 3);
        }
        return digits;
    }
}

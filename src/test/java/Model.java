import java.util.ArrayList;
import java.util.Arrays;
import java.util.List;
import java.util.regex.Matcher;
import java.util.regex.Pattern;

/**
 * The document a second time, as plainly as the Java library lets it be said and with no regard to cost, so that
 * ModelTest can hold the class against it. It shares no way of working with the class: texts are judged by one
 * great regular expression, BEST tries all rows, and every question is asked of a copy.
 */
final class Model {
    static final Pattern WORKS = Pattern.compile(clauses());

    static final class Soul {
        int kind, v;
        boolean home;
        int[] row = new int[4];

        Soul copy() {
            Soul s = new Soul();
            s.kind = kind;
            s.v = v;
            s.home = home;
            s.row = row.clone();
            return s;
        }
    }

    /** What THE IMAGE holds. */
    static final class World {
        List<Soul> souls = new ArrayList<>();
        List<boolean[]> cards = new ArrayList<>();
        List<Integer> has = new ArrayList<>();
        int day;
        String works;
        List<int[]> seen = new ArrayList<>();
        List<int[]> plan = new ArrayList<>();
        List<int[]> book = new ArrayList<>();

        World copy() {
            World w = new World();
            for (Soul s : souls) w.souls.add(s.copy());
            for (boolean[] c : cards) w.cards.add(c.clone());
            w.has.addAll(has);
            w.day = day;
            w.works = works;
            w.seen.addAll(seen);
            w.plan.addAll(plan);
            w.book.addAll(book);
            return w;
        }

        int size() {
            return souls.size();
        }

        int holes(int card) {
            int n = 0;
            for (boolean hole : cards.get(card)) if (hole) n++;
            return n;
        }

        int bits(int card) {
            int bits = 0;
            for (int slot = 9; slot >= 0; slot--) bits = 2 * bits + (cards.get(card)[slot] ? 1 : 0);
            return bits;
        }

        int allHoles() {
            int n = 0;
            for (int c = 0; c < size(); c++) n += holes(c);
            return n;
        }

        int mostHoles() {
            int n = 0;
            for (int c = 0; c < size(); c++) n = Math.max(n, holes(c));
            return n;
        }

        boolean[] punches(int p) {
            boolean[] slots = new boolean[10];
            boolean[] card = cards.get(has.get(p));
            Soul s = souls.get(p);
            int least = 0;
            while (least < 10 && card[least]) least++;
            switch (s.kind) {
                case 0 -> slots[day % 10] = true;
                case 1 -> slots[day % 10] = day % 3 != 0;
                case 2 -> slots[(s.v + day) % 10] = true;
                case 4 -> {
                    if (day % 3 != 0) {
                        slots[day % 10] = true;
                        slots[(day % 10 + 1) % 10] = true;
                    }
                }
                case 5 -> {
                    int slot = (s.v + day) % 10;
                    slots[card[slot] ? (slot + 5) % 10 : slot] = true;
                }
                default -> {
                    if (least < 10) slots[least] = true;
                    if (s.kind == 6) slots[s.row[day % 4]] = true;
                }
            }
            return slots;
        }

        World days(int n) {
            World w = this;
            for (int i = 0; i < n; i++) w = w.nextDay();
            return w;
        }

        World nextDay() {
            World w = copy();
            for (int p = 0; p < size(); p++) {
                if (souls.get(p).home) continue;
                boolean[] slots = punches(p);
                for (int i = 0; i < 10; i++) if (slots[i]) w.cards.get(has.get(p))[i] = true;
            }
            w.day = day + 1;
            int round = round();
            if (round > 0 && w.day % round == 0) {
                for (int p = 0; p < size(); p++) w.has.set(p, has.get((p + 1) % size()));
            }
            return w;
        }

        World swapped(int a, int b) {
            World w = copy();
            w.has.set(a, has.get(b));
            w.has.set(b, has.get(a));
            return w;
        }

        int round() {
            int n = 0;
            if (works != null) {
                for (String clause : works.split(";")) {
                    if (clause.startsWith("round")) n = Integer.parseInt(clause.substring(6));
                }
            }
            return n;
        }

        int temper(int p, int c) {
            int mood = 10 - holes(c);
            if (works != null) {
                for (String clause : works.split(";")) {
                    String[] parts = clause.split(" ");
                    if (parts[0].equals("round")) continue;
                    if (!either(parts[2], p, c)) continue;
                    mood += (parts[0].equals("glad") ? 1 : -1) * Integer.parseInt(parts[1]);
                }
            }
            Soul s = souls.get(p);
            if (s.kind == 2 || s.kind == 5) return c == p ? mood : mood + s.v;
            if (s.kind == 3 || s.kind == 6) return mood / 2;
            return mood;
        }

        int allTemper() {
            int n = 0;
            for (int p = 0; p < size(); p++) n += temper(p, has.get(p));
            return n;
        }

        boolean either(String e, int p, int c) {
            for (String term : split(e, '|')) if (all(term, p, c)) return true;
            return false;
        }

        boolean all(String t, int p, int c) {
            for (String factor : split(t, '&')) if (!factor(factor, p, c)) return false;
            return true;
        }

        boolean factor(String f, int p, int c) {
            if (f.charAt(0) == '!') return !factor(f.substring(1), p, c);
            if (f.charAt(0) == '(') return either(f.substring(1, f.length() - 1), p, c);
            int n = Integer.parseInt(f.substring(2));
            int value = switch (f.charAt(0)) {
                case 'p' -> p;
                case 'c' -> c;
                case 'k' -> souls.get(p).kind;
                case 'v' -> souls.get(p).v;
                case 'h' -> holes(c);
                default -> day % 10;
            };
            return switch (f.charAt(1)) {
                case '<' -> value < n;
                case '=' -> value == n;
                default -> value > n;
            };
        }

        boolean meetsSeen() {
            for (int[] row : seen) if (days(row[2]).bits(row[0]) != row[1]) return false;
            return true;
        }

        /** Fewest swaps by trying: depth first over all swaps, to a depth that grows. */
        int fewestSwaps() {
            for (int most = 0; ; most++) if (ownBy(new ArrayList<>(has), most)) return most;
        }

        private static boolean ownBy(List<Integer> has, int swaps) {
            int off = 0;
            for (int p = 0; p < has.size(); p++) if (has.get(p) != p) off++;
            if (off == 0) return true;
            if (off > 2 * swaps) return false;
            for (int a = 0; a < has.size(); a++) {
                for (int b = a + 1; b < has.size(); b++) {
                    List<Integer> next = new ArrayList<>(has);
                    next.set(a, has.get(b));
                    next.set(b, has.get(a));
                    if (ownBy(next, swaps - 1)) return true;
                }
            }
            return false;
        }

        /** The best row, tried as rows come in order; its sum stands behind it. */
        int[] best() {
            int n = size();
            int[] best = null;
            int[] row = new int[n];
            int all = 1;
            for (int i = 0; i < n; i++) all *= n;
            for (int number = 0; number < all; number++) {
                int rest = number;
                int used = 0;
                int sum = 0;
                for (int p = n - 1; p >= 0; p--) {
                    row[p] = rest % n;
                    rest /= n;
                    used |= 1 << row[p];
                }
                if (used != (1 << n) - 1) continue;
                for (int p = 0; p < n; p++) sum += temper(p, row[p]);
                if (best == null || sum > best[n]) {
                    best = Arrays.copyOf(row, n + 1);
                    best[n] = sum;
                }
            }
            return best;
        }
    }

    World now = new World();
    World image;
    String text = "";
    int worksCount;
    List<Integer> trace = new ArrayList<>();
    long[][] tapes = new long[6][];
    int[] sorts = new int[6];

    static List<String> split(String s, char by) {
        List<String> parts = new ArrayList<>();
        int depth = 0;
        int from = 0;
        for (int i = 0; i < s.length(); i++) {
            char c = s.charAt(i);
            if (c == '(') depth++;
            if (c == ')') depth--;
            if (c == by && depth == 0) {
                parts.add(s.substring(from, i));
                from = i + 1;
            }
        }
        parts.add(s.substring(from));
        return parts;
    }

    static String clauses() {
        String test = "[pckvhd][<=>][0-9][0-9]?";
        String factor = test;
        for (int level = 0; level < 4; level++) {
            factor = "(?:" + test + "|!" + factor + "|\\(" + either(factor) + "\\))";
        }
        String clause = "(?:glad [0-9][0-9]? " + either(factor) + "|sour [0-9][0-9]? " + either(factor)
            + "|round [0-9][0-9]?)";
        return clause + "(?:;" + clause + "){0,9}";
    }

    static String either(String factor) {
        return factor + "(?:[&|]" + factor + ")*";
    }

    /** -1: it is a WORKS. */
    static int fault(String text) {
        if (WORKS.matcher(text).matches()) return -1;
        for (int end = 1; end <= text.length(); end++) {
            Matcher m = WORKS.matcher(text.substring(0, end));
            if (!m.matches() && !m.hitEnd()) return end - 1;
        }
        return text.length();
    }

    boolean is(int p) {
        return p >= 0 && p < now.size();
    }

    static boolean in(int n, int from, int to) {
        return n >= from && n <= to;
    }

    int worker(int kind, int v) {
        if (!in(kind, 0, 6)) return -1;
        if (!in(v, 0, 9)) return -2;
        if (now.size() == 6) return -4;
        Soul s = new Soul();
        s.kind = kind;
        s.v = v;
        now.souls.add(s);
        now.cards.add(new boolean[10]);
        now.has.add(now.size() - 1);
        return now.size() - 1;
    }

    int of(int p, int what) {
        if (!is(p)) return -1001;
        Soul s = now.souls.get(p);
        if (what == 0) return s.kind;
        if (what == 1) return s.v;
        if (what == 2) return s.home ? 1 : 0;
        if (what == 3) return now.has.get(p);
        if (what == 4) {
            int n = 1;
            for (int q = now.has.get(p); q != p; q = now.has.get(q)) n++;
            return n;
        }
        if (what == 5) return now.temper(p, now.has.get(p));
        if (what == 6) {
            int bits = 0;
            boolean[] slots = now.punches(p);
            for (int i = 0; i < 10; i++) if (slots[i]) bits |= 1 << i;
            return bits;
        }
        return in(what, 10, 9 + now.size()) ? now.temper(p, what - 10) : -1001;
    }

    int set(int c, int holes) {
        if (!is(c)) return -1;
        if (!in(holes, 0, 1023)) return -2;
        int was = now.bits(c);
        for (int i = 0; i < 10; i++) now.cards.get(c)[i] = (holes >> i & 1) == 1;
        return was;
    }

    int swap(int a, int b) {
        if (!is(a) || !is(b)) return -1;
        if (a == b) return -2;
        now = now.swapped(a, b);
        return now.has.get(a);
    }

    int stay(int p, boolean is) {
        if (!is(p)) return -1;
        boolean was = now.souls.get(p).home;
        now.souls.get(p).home = is;
        return was ? 1 : 0;
    }

    int row(int p, int part, int n) {
        if (!is(p) || !in(part, 0, 3)) return -1;
        if (!in(n, 0, 9)) return -2;
        if (now.souls.get(p).kind != 6) return -3;
        int was = now.souls.get(p).row[part];
        now.souls.get(p).row[part] = n;
        return was;
    }

    int feed(int sign) {
        if (!in(sign, 0, 127)) return -2;
        if (text.length() == 100) return -4;
        text += (char) sign;
        return text.length();
    }

    int works() {
        if (worksCount == 6) return -4;
        String read = text;
        text = "";
        int fault = fault(read);
        if (fault >= 0) return -10 - fault;
        now.works = read;
        return worksCount++;
    }

    int told(int what) {
        if (what == 0) return now.day;
        if (what == 1) return now.round();
        if (what == 2) return now.allHoles();
        if (what == 3) return now.allTemper();
        if (what == 4) return now.fewestSwaps();
        if (what == 5) {
            for (int p = 0; p < now.size(); p++) {
                int q = now.has.indexOf(p);
                if (q != p) return 10 * Math.min(p, q) + Math.max(p, q);
            }
            return -5;
        }
        if (what == 6) {
            int answer = -5;
            int least = now.days(20).mostHoles();
            for (int a = 0; a < now.size(); a++) {
                for (int b = a + 1; b < now.size(); b++) {
                    int most = now.swapped(a, b).days(20).mostHoles();
                    if (most < least) {
                        least = most;
                        answer = 10 * a + b;
                    }
                }
            }
            return answer;
        }
        return in(what, 10, 9 + now.size()) ? now.bits(what - 10) : -1001;
    }

    int pass(int n) {
        if (!in(n, 0, 60)) return -2;
        if (now.day + n > 9999) return -3;
        now = now.days(n);
        return now.day;
    }

    int on(int n, int what) {
        if (what != 0 && !in(what, 10, 9 + now.size()) && !in(what, 20, 19 + now.size())) return -1;
        if (!in(n, 0, 60)) return -2;
        World w = now.days(n);
        if (what == 0) return w.allHoles();
        return what < 20 ? w.bits(what - 10) : w.has.get(what - 20);
    }

    int full(int c, int q) {
        if (!is(c)) return -1;
        if (!in(q, 0, 10)) return -2;
        World w = now;
        for (int n = 0; n <= 60; n++, w = w.nextDay()) if (w.holes(c) >= q) return n;
        return -5;
    }

    int best(int what) {
        if (what != 0 && !in(what, 10, 9 + now.size())) return -1001;
        int[] row = now.best();
        return what == 0 ? row[now.size()] : row[what - 10];
    }

    int see(int c, int holes, int n) {
        if (c == -1) {
            now.seen.clear();
            return 0;
        }
        if (!is(c)) return -1;
        if (!in(holes, 0, 1023) || !in(n, 0, 20)) return -2;
        if (now.seen.size() == 5) return -4;
        now.seen.add(new int[] {c, holes, n});
        return now.seen.size();
    }

    int had(int p) {
        if (!is(p)) return -1;
        int bits = 0;
        for (int c = 0; c < now.size(); c++) {
            int q = now.has.indexOf(c);
            if ((q == p ? now : now.swapped(p, q)).meetsSeen()) bits |= 1 << c;
        }
        return bits;
    }

    int can(int p, int what) {
        if (!is(p) || !in(what, 0, 1)) return -1;
        List<Integer> vs = new ArrayList<>();
        for (int v = 0; v < 10; v++) {
            World w = now.copy();
            w.souls.get(p).v = v;
            if (w.meetsSeen()) vs.add(v);
        }
        if (what == 0) return vs.size();
        return vs.isEmpty() ? -5 : vs.get(0);
    }

    static long part(int above, int below, int part) {
        for (int d = below; d > 1; d--) {
            if (above % d == 0 && below % d == 0) return part == 0 ? above / d : below / d;
        }
        return part == 0 ? above : below;
    }

    long odds(int n, int q, int part) {
        if (now.size() == 0 || !in(n, 0, 60) || !in(q, 0, 60) || !in(part, 0, 1)) return Long.MIN_VALUE;
        int cases = 0;
        for (int p = 0; p < now.size(); p++) {
            World w = now.copy();
            w.souls.get(p).home = true;
            if (w.days(n).allHoles() <= q) cases++;
        }
        return part(cases, now.size(), part);
    }

    long mean(int n, int part) {
        if (now.size() == 0 || !in(n, 0, 60) || !in(part, 0, 1)) return Long.MIN_VALUE;
        return part(now.days(n).allHoles(), now.size(), part);
    }

    int plan(int what, int n) {
        if (what == -1) {
            now.plan.clear();
            return 0;
        }
        if (!in(what, 0, 3)) return -1;
        if (what == 1 && (n < 0 || !is(n / 10) || !is(n % 10))) return -1;
        if (what > 1 && !is(n)) return -1;
        if (what == 1 && n / 10 == n % 10) return -2;
        if (now.plan.size() == 10) return -4;
        now.plan.add(new int[] {what, n});
        return now.plan.size();
    }

    int ends(int what) {
        if (!in(what, 0, 1)) return -1001;
        World w = now.copy();
        for (int[] row : now.plan) {
            if (row[0] == 0) w = w.nextDay();
            if (row[0] == 1) w = w.swapped(row[1] / 10, row[1] % 10);
            if (row[0] > 1) w.souls.get(row[1]).home = row[0] == 2;
        }
        return what == 0 ? w.allHoles() : w.allTemper();
    }

    int book(int c, int holes) {
        if (c == -1) {
            now.book.clear();
            return 0;
        }
        if (!is(c)) return -1;
        if (!in(holes, 0, 1023)) return -2;
        if (now.book.size() == 8) return -4;
        now.book.add(new int[] {c, holes});
        return now.book.size();
    }

    int looked() {
        for (int i = 0; i < now.book.size(); i++) {
            if (now.bits(now.book.get(i)[0]) != now.book.get(i)[1]) return i;
        }
        return -5;
    }

    int judge(int t, int i) {
        if (!in(t, 0, 5)) return -1;
        if (tapes[t] != null && sorts[t] != 1) return -12;
        if (now.size() == 0) return -5;
        if (tapes[t] == null || i < 0) return 100;
        for (int c = 0; c < now.size(); c++) {
            if ((long) i + c >= tapes[t].length) return 100 + c;
            if (tapes[t][i + c] != now.bits(c)) return c;
        }
        return -5;
    }

    int image() {
        image = now.copy();
        return now.size();
    }

    int undo() {
        if (image == null) return -3;
        now = image.copy();
        return now.size();
    }

    static final int[] ABOVE = {-1, 0, 0, 0, 1, 2, 3};
    /** Rows: KIND, act, number of the body. */
    static final int[][] BODIES = {
        {0, 0, 10}, {0, 1, 11}, {0, 2, 12}, {1, 1, 20}, {2, 0, 30}, {3, 2, 40},
        {4, 0, 50}, {4, 1, 51}, {5, 2, 60}, {6, 1, 70}, {6, 0, 71}
    };

    int act(int p, int act, int x) {
        trace.clear();
        if (!is(p) || !in(act, 0, 2)) return 0;
        return run(p, now.souls.get(p).kind, act, x);
    }

    private int run(int p, int kind, int act, int x) {
        int at = kind;
        int body = -1;
        while (body < 0) {
            for (int[] row : BODIES) if (row[0] == at && row[1] == act) body = row[2];
            if (body < 0) at = ABOVE[at];
        }
        trace.add(body);
        int own = now.souls.get(p).kind;
        int v = now.souls.get(p).v;
        int up = ABOVE[at];
        switch (body) {
            case 10: return x + p;
            case 11: return run(p, own, 0, x) - v;
            case 12: return run(p, own, 1, x) * 2;
            case 20: return run(p, up, 1, x) ^ 6;
            case 30: return run(p, up, 0, x * 3);
            case 40: {
                int left = run(p, up, 2, x);
                return left + run(p, own, 1, 1);
            }
            case 50: return -run(p, up, 0, x);
            case 51: return run(p, up, 1, x + 1);
            case 60: return run(p, up, 2, x - p);
            case 70: {
                int left = run(p, up, 1, x);
                return left + run(p, up, 0, 2);
            }
            default: return run(p, up, 0, x) ^ v;
        }
    }

    int trace(int i) {
        return i >= 0 && i < trace.size() && i < 20 ? trace.get(i) : -1;
    }

    int taken(int p, int k) {
        if (!in(k, 0, 6)) return -2;
        if (!is(p)) return -11;
        for (int at = now.souls.get(p).kind; at >= 0; at = ABOVE[at]) if (at == k) return now.souls.get(p).kind;
        return -12;
    }

    int count(int what) {
        if (what == 0) return now.size();
        if (what == 1) return worksCount;
        if (what == 2) return now.seen.size();
        if (what == 3) return now.plan.size();
        if (what == 4) return now.book.size();
        if (what == 5) return text.length();
        return what == 6 ? trace.size() : -2;
    }

    int tape(int t, int sort, int n) {
        if (!in(t, 0, 5)) return -1;
        if (sort == -1) {
            tapes[t] = null;
            return 1;
        }
        if (!in(sort, 0, 4) || n > 60) return -2;
        if (n < 0) return -14;
        tapes[t] = new long[n];
        sorts[t] = sort;
        return 1;
    }

    int item(int t, int i, long v) {
        if (!in(t, 0, 5)) return -1;
        if (tapes[t] == null) return -11;
        if (i < 0 || i >= tapes[t].length) return -13;
        int sort = sorts[t];
        int bits = sort == 0 ? 8 : sort == 1 ? 16 : sort == 2 ? 32 : 64;
        tapes[t][i] = sort == 4 ? (v == 0 ? 0 : 1) : v << 64 - bits >> 64 - bits;
        return 1;
    }

    long read(int t, int i) {
        if (!in(t, 0, 5) || tapes[t] == null || i < 0 || i >= tapes[t].length) return Long.MIN_VALUE;
        return tapes[t][i];
    }

    int shift(int t, int i, int o, int j, int n) {
        if (!in(t, 0, 5) || !in(o, 0, 5)) return -1;
        if (tapes[t] == null || tapes[o] == null) return -11;
        if (sorts[t] != sorts[o]) return -12;
        if (n < 0 || i < 0 || j < 0) return -13;
        if ((long) i + n > tapes[t].length || (long) j + n > tapes[o].length) return -13;
        long[] before = tapes[t].clone();
        for (int k = 0; k < n; k++) tapes[o][j + k] = before[i + k];
        return n;
    }
}

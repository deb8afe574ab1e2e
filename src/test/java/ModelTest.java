import java.util.ArrayList;
import java.util.Arrays;
import java.util.HashMap;
import java.util.HashSet;
import java.util.List;
import java.util.Map;
import java.util.Random;
import java.util.Set;
import java.util.TreeMap;

/** Random runs of calls, each answered by the class and by a slow model that is written straight from the document. */
public final class ModelTest {
    private static final int RUNS = 800, CALLS = 160;

    public static void main(String[] args) {
        int runs = args.length > 0 ? Integer.parseInt(args[0]) : RUNS;
        int wrong = 0;
        for (int run = 0; run < runs && wrong < 5; run++) {
            wrong += new Driver(run).drive() ? 0 : 1;
        }
        System.out.println(wrong == 0 ? "the class answers as the model does" : wrong + " runs went wrong");
        if (wrong != 0) {
            System.exit(1);
        }
    }

    static final class Driver {
        final Random random;
        final int run;
        final KnotRopes x = new KnotRopes();
        final Model m = new Model();
        final List<String> calls = new ArrayList<>();
        boolean right = true;

        Driver(int run) {
            this.run = run;
            random = new Random(run * 7919L + 13);
        }

        boolean drive() {
            compareState("new");
            if (random.nextInt(10) > 0) {
                tellCraft();
            }
            for (int i = 0; i < CALLS && right; i++) {
                step();
            }
            return right;
        }

        void due(String call, long got, long want) {
            calls.add(call + " -> " + got);
            if (got != want && right) {
                right = false;
                System.out.println("run " + run + ": " + call + " answered " + got + ", due is " + want);
                for (String c : calls.subList(Math.max(0, calls.size() - 40), calls.size())) {
                    System.out.println("    " + c);
                }
            }
            compareState(call);
        }

        void compareState(String call) {
            compare(call + ", asked()", x.asked(), m.asked);
            compare(call + ", upper()", x.upper(), m.upper);
            compare(call + ", finding()", x.finding(), m.finding);
            for (int f = 0; f <= 6; f++) {
                compare(call + ", findings(" + f + ")", x.findings(f), f < 1 || f > 5 ? -1 : m.findings[f]);
            }
            compare(call + ", digest()", x.digest(), m.digest());
        }

        void compare(String what, long got, long want) {
            if (got != want && right) {
                right = false;
                System.out.println("run " + run + ": " + what + " is " + got + ", due is " + want);
                for (String c : calls.subList(Math.max(0, calls.size() - 40), calls.size())) {
                    System.out.println("    " + c);
                }
            }
        }

        int some(int low, int high) {
            return low + random.nextInt(high - low + 1);
        }

        /** Mostly within the bounds, now and then beside them. */
        int about(int low, int high) {
            int lot = random.nextInt(40);
            if (lot == 0) {
                return low - 1;
            }
            if (lot == 1) {
                return high + 1;
            }
            if (lot == 2) {
                return random.nextInt();
            }
            return high < low ? low : some(low, high);
        }

        int aRow() {
            return about(0, 5);
        }

        void tellCraft() {
            String text = random.nextInt(12) == 0 ? brokenText() : craftText();
            int t = some(0, 3);
            due("text(" + t + ", " + text.length() + ")", x.text(t, text.length()), m.text(t, text.length()));
            for (int i = 0; i < text.length(); i++) {
                int v = text.charAt(i);
                due("put(" + t + ", " + i + ", " + v + ")", x.put(t, i, v), m.put(t, i, v));
            }
            due("fault(" + t + ")  [" + text + "]", x.fault(t), m.fault(t));
            due("craft(" + t + ")  [" + text + "]", x.craft(t), m.craft(t));
        }

        String craftText() {
            StringBuilder b = new StringBuilder();
            blanks(b);
            int length = random.nextInt(3) == 0 ? some(0, 99) : some(8, 40);
            int girth = random.nextInt(3) == 0 ? some(0, length) : some(0, Math.min(length, 9));
            b.append('r').append(length / 10).append(length % 10).append(girth / 10).append(girth % 10);
            int knots = random.nextInt(30) == 0 ? 0 : some(1, 6);
            int mostSize = random.nextBoolean() ? 2 : some(1, 9);
            int mostSign = random.nextBoolean() ? some(1, 3) : 9;
            String letters = random.nextInt(4) == 0 ? "b" : random.nextInt(3) == 0 ? "bsh" : "kobhsw";
            for (int i = 0; i < knots; i++) {
                blanks(b);
                b.append(letters.charAt(random.nextInt(letters.length())));
                b.append(some(1, mostSize)).append(some(0, mostSign));
            }
            int laws = knots == 0 ? 0 : some(0, 6) * some(0, 1);
            for (int i = 0; i < laws; i++) {
                blanks(b);
                b.append('x').append(some(0, knots - 1)).append(some(0, knots - 1));
            }
            int pairs = knots == 0 ? 0 : some(0, 6);
            for (int i = 0; i < pairs; i++) {
                blanks(b);
                b.append('y').append(some(0, knots - 1)).append(some(0, knots - 1)).append(some(0, mostSign));
            }
            if (b.length() < 80 && random.nextBoolean()) {
                b.append(' ');
            }
            return b.length() > 80 ? b.substring(0, 80) : b.toString();
        }

        void blanks(StringBuilder b) {
            int many = random.nextInt(4) == 0 ? some(0, 2) : 0;
            for (int i = 0; i < many; i++) {
                b.append(' ');
            }
        }

        String brokenText() {
            StringBuilder b = new StringBuilder(craftText());
            String signs = " rkobhswxy0123456789z\u007f";
            int hurts = some(1, 3);
            for (int i = 0; i < hurts && b.length() > 0; i++) {
                int place = random.nextInt(b.length());
                int lot = random.nextInt(4);
                char sign = signs.charAt(random.nextInt(signs.length()));
                if (lot == 0) {
                    b.deleteCharAt(place);
                } else if (lot == 1 && b.length() < 80) {
                    b.insert(place, sign);
                } else if (lot == 2) {
                    b.setLength(place);
                } else {
                    b.setCharAt(place, sign);
                }
            }
            return b.toString();
        }

        void fillRow(int r, int size, int below) {
            due("row(" + r + ", " + size + ")", x.row(r, size), m.row(r, size));
            for (int i = 0; i < size; i++) {
                int v = random.nextInt(400) == 0 ? some(-3, 120) : below <= 0 ? 0 : some(0, below - 1);
                due("lay(" + r + ", " + i + ", " + v + ")", x.lay(r, i, v), m.lay(r, i, v));
            }
        }

        /** A ROW of KNOTS, mostly. */
        int knotRow() {
            int r = aRow();
            if (r < 0 || r > 5) {
                return r;
            }
            int lot = random.nextInt(12);
            if (lot < 4) {
                fillRow(r, some(0, random.nextInt(5) == 0 ? 21 : 7), m.kinds.size());
            } else if (lot < 10) {
                int n = some(0, 20);
                int seed = some(1, 1000000);
                due("lots(" + n + ", " + seed + ", " + r + ")", x.lots(n, seed, r), m.lots(n, seed, r));
            }
            return r;
        }

        /** A MESSAGE, mostly one that a ROPE READS. */
        int messageRow() {
            int r = aRow();
            if (r < 0 || r > 5) {
                return r;
            }
            int lot = random.nextInt(12);
            if (lot < 3) {
                fillRow(r, some(0, random.nextInt(5) == 0 ? 13 : 5), 10);
            } else if (lot < 10) {
                int n = some(0, random.nextInt(3) == 0 ? 20 : 6);
                int seed = some(1, 1000000);
                due("lots(" + n + ", " + seed + ", " + r + ")", x.lots(n, seed, r), m.lots(n, seed, r));
                due("says(" + r + ", " + r + ")", x.says(r, r), m.says(r, r));
            } else if (!m.pairs.isEmpty()) {
                longMessage(r);
            }
            return r;
        }

        /** Eleven or twelve SIGNS, most of them by PAIRS, so that twenty KNOTS may not be enough. */
        void longMessage(int r) {
            int size = some(11, 12);
            due("row(" + r + ", " + size + ")", x.row(r, size), m.row(r, size));
            for (int i = 0; i < size; i++) {
                int[] pair = m.pairs.get(random.nextInt(m.pairs.size()));
                int v = random.nextInt(4) > 0 ? pair[2] : m.signs.get(random.nextInt(m.signs.size()));
                due("lay(" + r + ", " + i + ", " + v + ")", x.lay(r, i, v), m.lay(r, i, v));
            }
        }

        void step() {
            int lot = random.nextInt(60);
            if (lot < 16) {
                stepRows(lot);
            } else if (lot < 36) {
                stepRope(lot);
            } else {
                stepMessages(lot);
            }
        }

        void stepRows(int lot) {
            int r = aRow();
            int q = aRow();
            int i = about(0, random.nextBoolean() ? 39 : 6);
            int j = about(0, 6);
            int v = random.nextInt(3) == 0 ? random.nextInt() : some(-5, 110);
            int n;
            switch (lot) {
                case 0: n = about(0, 40); due("row(" + r + ", " + n + ")", x.row(r, n), m.row(r, n)); break;
                case 1: case 2: due("lay(" + r + ", " + i + ", " + v + ")", x.lay(r, i, v), m.lay(r, i, v)); break;
                case 3: case 4: due("at(" + r + ", " + i + ")", x.at(r, i), m.at(r, i)); break;
                case 5: due("tear(" + r + ")", x.tear(r), m.tear(r)); break;
                case 6: case 7: n = about(0, 5); due("copy(" + r + ", " + i + ", " + q + ", " + j + ", " + n + ")",
                    x.copy(r, i, q, j, n), m.copy(r, i, q, j, n)); break;
                case 8: due("mean(" + r + ")", x.mean(r), m.mean(r)); break;
                case 9: int t = about(0, 3); n = about(0, 80); due("text(" + t + ", " + n + ")", x.text(t, n), m.text(t, n)); break;
                case 10: int u = about(0, 3); due("put(" + u + ", " + i + ", " + v + ")", x.put(u, i, v), m.put(u, i, v)); break;
                case 11: int w = about(0, 3); due("fault(" + w + ")", x.fault(w), m.fault(w)); break;
                case 12: if (random.nextInt(4) == 0) { tellCraft(); }
                    int c = about(0, 3); if (random.nextInt(6) == 0) { due("craft(" + c + ")", x.craft(c), m.craft(c)); } break;
                case 13: int k = about(0, 5); int what = about(0, 4); due("knot(" + k + ", " + what + ")", x.knot(k, what), m.knot(k, what)); break;
                case 14: int l = about(0, 5); int kind = about(0, 5); due("mark(" + l + ", " + kind + ")", x.mark(l, kind), m.mark(l, kind)); break;
                default: fillRow(some(0, 5), some(0, 6), some(1, 100)); break;
            }
        }

        void stepRope(int lot) {
            int k = about(0, m.kinds.size() - 1);
            int r = aRow();
            int n;
            switch (lot) {
                case 16: if (random.nextInt(3) == 0) { n = about(1, 99); due("length(" + n + ")", x.length(n), m.length(n)); } break;
                case 17: n = about(0, 9); due("sign(" + k + ", " + n + ")", x.sign(k, n), m.sign(k, n)); break;
                case 18: case 19: case 20: case 21: case 22: case 23: case 24: case 25: due("tie(" + k + ")", x.tie(k), m.tie(k)); break;
                case 26: n = about(0, 3); due("untie(" + n + ")", x.untie(n), m.untie(n)); break;
                case 27: n = about(0, 19); due("rope(" + n + ")", x.rope(n), m.rope(n)); break;
                case 28: due("left()", x.left(), m.left()); break;
                case 29: due("reads(" + r + ")", x.reads(r), m.reads(r)); break;
                case 30: due("lies(" + r + ")", x.lies(r), m.lies(r)); break;
                case 31: n = about(0, 2); due("keep(" + n + ")", x.keep(n), m.keep(n)); break;
                case 32: n = about(0, 2); due("on(" + n + ")", x.on(n), m.on(n)); break;
                case 33: n = about(0, 20); due("ropes(" + n + ")", x.ropes(n), m.ropes(n)); break;
                case 34: n = about(0, 20); due("upTo(" + n + ")", x.upTo(n), m.upTo(n)); break;
                default: n = about(0, random.nextInt(4) == 0 ? 20 : 5); int i = about(0, random.nextInt(4) == 0 ? Integer.MAX_VALUE - 1 : 60);
                    due("nth(" + n + ", " + i + ", " + r + ")", x.nth(n, i, r), m.nth(n, i, r)); break;
            }
        }

        void stepMessages(int lot) {
            int to = aRow();
            int r;
            int q;
            switch (lot) {
                case 36: case 37: r = knotRow(); due("judge(" + r + ")", x.judge(r), m.judge(r)); break;
                case 38: r = knotRow(); due("takes(" + r + ")", x.takes(r), m.takes(r)); break;
                case 39: r = knotRow(); due("says(" + r + ", " + to + ")", x.says(r, to), m.says(r, to)); break;
                case 40: case 41: r = messageRow(); due("shortest(" + r + ", " + to + ")", x.shortest(r, to), m.shortest(r, to)); break;
                case 42: case 43: r = messageRow(); due("ways(" + r + ")", x.ways(r), m.ways(r)); break;
                case 44: r = messageRow(); if (m.kinds.size() < 5 || random.nextInt(12) == 0) { due("signs(" + r + ", " + to + ")", x.signs(r, to), m.signs(r, to)); } break;
                case 45: case 46: r = messageRow(); due("change(" + r + ", " + to + ")", x.change(r, to), m.change(r, to)); break;
                case 47: bothOfARope(to); break;
                case 48: r = messageRow(); q = messageRow(); due("both(" + r + ", " + q + ", " + to + ")", x.both(r, q, to), m.both(r, q, to)); break;
                case 49: case 50: r = knotRow(); due("slips(" + r + ")", x.slips(r), m.slips(r)); break;
                case 51: r = knotRow(); q = knotRow(); due("apart(" + r + ", " + q + ")", x.apart(r, q), m.apart(r, q)); break;
                case 52: case 53: r = knotRow(); due("lent(" + r + ")", x.lent(r), m.lent(r)); break;
                case 54: r = knotRow(); q = about(0, 7); due("moths(" + r + ", " + q + ", " + to + ")", x.moths(r, q, to), m.moths(r, q, to)); break;
                case 55: r = knotRow(); due("cuts(" + r + ")", x.cuts(r), m.cuts(r)); break;
                case 56: case 57: r = aRow(); if (r >= 0 && r < 6) { fillRow(r, some(0, 7), some(1, 24)); }
                    due("packs(" + r + ")", x.packs(r), m.packs(r)); break;
                case 58: q = about(0, 20); int seed = about(1, Integer.MAX_VALUE - 1); due("lots(" + q + ", " + seed + ", " + to + ")", x.lots(q, seed, to), m.lots(q, seed, to)); break;
                default: q = about(0, 8); due("count(" + q + ")", x.count(q), m.count(q)); break;
            }
        }

        /** Both readings of one ROPE, so that there often is one; sometimes of a ROPE that is too long. */
        void bothOfARope(int to) {
            int n = some(0, 6);
            int seed = some(1, 1000000);
            due("lots(" + n + ", " + seed + ", 0)", x.lots(n, seed, 0), m.lots(n, seed, 0));
            due("says(0, 1)", x.says(0, 1), m.says(0, 1));
            List<Integer> back = new ArrayList<>(m.rows.get(0));
            java.util.Collections.reverse(back);
            due("row(2, " + back.size() + ")", x.row(2, back.size()), m.row(2, back.size()));
            for (int i = 0; i < back.size(); i++) {
                due("lay(2, " + i + ", " + back.get(i) + ")", x.lay(2, i, back.get(i)), m.lay(2, i, back.get(i)));
            }
            due("says(2, 2)", x.says(2, 2), m.says(2, 2));
            due("both(1, 2, " + to + ")", x.both(1, 2, to), m.both(1, 2, to));
        }
    }

    /** The document's words, taken plainly, without care for speed. */
    static final class Model {
        final List<List<Integer>> rows = new ArrayList<>();
        final List<byte[]> texts = new ArrayList<>();
        List<Character> kinds = new ArrayList<>();
        List<Integer> sizes = new ArrayList<>();
        List<Integer> signs = new ArrayList<>();
        List<int[]> laws = new ArrayList<>();
        List<int[]> pairs = new ArrayList<>();
        int length, girth, asked, finding;
        long upper;
        final int[] findings = new int[6];
        List<Integer> theRope = new ArrayList<>();
        final List<List<Integer>> kept = new ArrayList<>();
        final int[] keptLength = new int[3];

        Model() {
            for (int i = 0; i < 6; i++) {
                rows.add(null);
            }
            for (int i = 0; i < 4; i++) {
                texts.add(null);
            }
            for (int i = 0; i < 3; i++) {
                kept.add(null);
            }
        }

        int find(int f) {
            finding = f;
            findings[f]++;
            return -3;
        }

        boolean no(int i, int end) {
            return i < 0 || i >= end;
        }

        int row(int r, int n) {
            if (no(r, 6) || n > 40) return -1;
            if (n < 0) return find(5);
            rows.set(r, new ArrayList<>(java.util.Collections.nCopies(n, 0)));
            return n;
        }

        int lay(int r, int i, int v) {
            if (no(r, 6)) return -1;
            if (rows.get(r) == null) return find(1);
            if (no(i, rows.get(r).size())) return find(2);
            asked = rows.get(r).set(i, v);
            return 1;
        }

        int at(int r, int i) {
            if (no(r, 6)) return -1;
            if (rows.get(r) == null) return find(1);
            if (no(i, rows.get(r).size())) return find(2);
            asked = rows.get(r).get(i);
            return 1;
        }

        int tear(int r) {
            if (no(r, 6)) return -1;
            if (rows.get(r) == null) return find(1);
            rows.set(r, null);
            return 1;
        }

        int copy(int r, int i, int to, int j, int n) {
            if (no(r, 6) || no(to, 6)) return -1;
            if (n < 0) return find(5);
            if (rows.get(r) == null || rows.get(to) == null) return find(1);
            if (i < 0 || j < 0 || (long) i + n > rows.get(r).size() || (long) j + n > rows.get(to).size()) return find(2);
            List<Integer> taken = new ArrayList<>(rows.get(r).subList(i, i + n));
            for (int d = 0; d < n; d++) rows.get(to).set(j + d, taken.get(d));
            return 1;
        }

        int mean(int r) {
            if (no(r, 6)) return -1;
            if (rows.get(r) == null) return find(1);
            if (rows.get(r).isEmpty()) return find(4);
            java.math.BigInteger sum = java.math.BigInteger.ZERO;
            for (int v : rows.get(r)) sum = sum.add(java.math.BigInteger.valueOf(v));
            asked = sum.divide(java.math.BigInteger.valueOf(rows.get(r).size())).intValueExact();
            return 1;
        }

        int text(int t, int n) {
            if (no(t, 4) || n > 80) return -1;
            if (n < 0) return find(5);
            byte[] b = new byte[n];
            Arrays.fill(b, (byte) 32);
            texts.set(t, b);
            return n;
        }

        int put(int t, int i, int v) {
            if (no(t, 4)) return -1;
            if (texts.get(t) == null) return find(1);
            if (no(i, texts.get(t).length)) return find(2);
            int was = texts.get(t)[i];
            texts.get(t)[i] = (byte) v;
            return was + 1000;
        }

        int fault(int t) {
            if (no(t, 4)) return -1;
            if (texts.get(t) == null) return find(1);
            return parse(texts.get(t), null);
        }

        int craft(int t) {
            if (no(t, 4)) return -1;
            if (texts.get(t) == null) return find(1);
            if (parse(texts.get(t), null) != -9) return -4;
            kinds = new ArrayList<>();
            sizes = new ArrayList<>();
            signs = new ArrayList<>();
            laws = new ArrayList<>();
            pairs = new ArrayList<>();
            parse(texts.get(t), this);
            theRope = new ArrayList<>();
            for (int i = 0; i < 3; i++) kept.set(i, null);
            return kinds.size();
        }

        /** Item by item: each item is asked for sign by sign, by a pattern of what may stand there. */
        static int parse(byte[] b, Model into) {
            int p = 0;
            boolean first = true;
            int knots = 0, laws = 0, pairs = 0;
            while (true) {
                while (p < b.length && b[p] == 32) p++;
                if (p == b.length) return first ? b.length : -9;
                char letter = (char) b[p];
                String pattern;
                if (first) {
                    if (letter != 'r') return p;
                    pattern = "9999";
                } else if ("kobhsw".indexOf(letter) >= 0) {
                    if (knots == 6 || laws > 0 || pairs > 0) return p;
                    pattern = "S9";
                } else if (letter == 'x') {
                    if (laws == 6 || pairs > 0) return p;
                    pattern = "KK";
                } else if (letter == 'y') {
                    if (pairs == 6) return p;
                    pattern = "KK9";
                } else {
                    return p;
                }
                int[] f = new int[pattern.length()];
                for (int i = 0; i < f.length; i++) {
                    int place = p + 1 + i;
                    if (place >= b.length) return b.length;
                    if (b[place] < '0' || b[place] > '9') return place;
                    f[i] = b[place] - '0';
                    if (pattern.charAt(i) == 'S' && f[i] == 0) return place;
                    if (pattern.charAt(i) == 'K' && f[i] >= knots) return place;
                }
                if (first && f[2] * 10 + f[3] > f[0] * 10 + f[1]) return p + 3;
                p += 1 + f.length;
                if (into != null && first) {
                    into.length = f[0] * 10 + f[1];
                    into.girth = f[2] * 10 + f[3];
                } else if (into != null && letter == 'x') {
                    into.laws.add(f);
                } else if (into != null && letter == 'y') {
                    into.pairs.add(f);
                } else if (into != null) {
                    into.kinds.add(letter);
                    into.sizes.add(f[0]);
                    into.signs.add(f[1]);
                }
                if (!first) {
                    if (letter == 'x') laws++;
                    else if (letter == 'y') pairs++;
                    else knots++;
                }
                first = false;
            }
        }

        boolean loop(int k) {
            return "oh".indexOf(kinds.get(k)) >= 0;
        }

        boolean bend(int k) {
            return "bs".indexOf(kinds.get(k)) >= 0;
        }

        int fact(int k, int what) {
            switch (what) {
                case 0: return "kobhsw".indexOf(kinds.get(k));
                case 1: return sizes.get(k);
                case 2: return signs.get(k);
                case 3: return loop(k) ? 2 * sizes.get(k) : sizes.get(k);
                default:
                    int bits = 0;
                    for (int[] l : laws) if (l[0] == k) bits |= 1 << l[1];
                    return bits;
            }
        }

        int knot(int k, int what) {
            if (no(k, kinds.size()) || no(what, 5)) return -1;
            asked = fact(k, what);
            return 1;
        }

        int mark(int k, int kind) {
            if (no(k, kinds.size()) || kind < 1 || kind > 5) return -1;
            char c = kinds.get(k);
            switch (kind) {
                case 1: return loop(k) ? sizes.get(k) : find(3);
                case 2: return bend(k) ? sizes.get(k) - 1 : find(3);
                case 3: return c == 'h' ? 2 * sizes.get(k) + 1 : find(3);
                case 4:
                    if (c != 's') return find(3);
                    int in = 0;
                    for (int[] p : pairs) if (p[0] == k || p[1] == k) in++;
                    return in;
                default: return c == 'w' ? java.util.Collections.frequency(theRope, k) : find(3);
            }
        }

        int length(int v) {
            if (v < 1 || v > 99) return -1;
            if (kinds.isEmpty() || girth > v) return -4;
            int was = length;
            length = v;
            return was;
        }

        int sign(int k, int v) {
            if (no(k, kinds.size()) || no(v, 10)) return -1;
            return signs.set(k, v);
        }

        int takesOf(List<Integer> rope) {
            int sum = 0;
            for (int i = 0; i < rope.size(); i++) {
                int k = rope.get(i);
                int t = sizes.get(k);
                if (loop(k)) t *= 2;
                if (bend(k) && i > 0 && bend(rope.get(i - 1))) t--;
                if (i == rope.size() - 1 && kinds.get(k) == 'h') t++;
                sum += t;
            }
            return sum;
        }

        boolean lawful(List<Integer> rope) {
            for (int i = 0; i + 1 < rope.size(); i++)
                for (int[] l : laws) if (l[0] == rope.get(i) && l[1] == rope.get(i + 1)) return false;
            return true;
        }

        boolean isRight(List<Integer> rope) {
            return lawful(rope) && length - takesOf(rope) >= girth;
        }

        int pairOf(int a, int b) {
            if (kinds.get(a) == 's' || kinds.get(b) == 's') return -1;
            for (int[] p : pairs) if (p[0] == a && p[1] == b) return p[2];
            return -1;
        }

        List<Integer> readOf(List<Integer> rope, List<Integer> signs) {
            List<Integer> out = new ArrayList<>();
            int i = 0;
            while (i < rope.size()) {
                int pair = i + 1 < rope.size() ? pairOf(rope.get(i), rope.get(i + 1)) : -1;
                if (pair >= 0) {
                    out.add(pair);
                    i += 2;
                } else {
                    out.add(signs.get(rope.get(i)));
                    i++;
                }
            }
            return out;
        }

        /** Whether the last one was read alone, so that it could yet begin a PAIR. */
        boolean lastAlone(List<Integer> rope) {
            int i = 0;
            while (i < rope.size()) {
                if (i + 1 < rope.size() && pairOf(rope.get(i), rope.get(i + 1)) >= 0) {
                    i += 2;
                    if (i == rope.size()) return false;
                } else {
                    i++;
                }
            }
            return !rope.isEmpty();
        }

        int tie(int k) {
            if (no(k, kinds.size())) return -1;
            List<Integer> then = plus(theRope, k);
            if (!isRight(then)) return -4;
            if (theRope.size() == 20) return -2;
            theRope = then;
            return length - takesOf(theRope);
        }

        static List<Integer> plus(List<Integer> rope, int k) {
            List<Integer> then = new ArrayList<>(rope);
            then.add(k);
            return then;
        }

        int untie(int n) {
            if (n < 0 || n > 20 || n > theRope.size()) return -1;
            int rest = theRope.size() - n;
            for (int k : theRope.subList(rest, theRope.size())) if (kinds.get(k) == 'w') return -4;
            theRope = new ArrayList<>(theRope.subList(0, rest));
            return rest;
        }

        int rope(int i) {
            if (i < 0) return -1;
            return i < theRope.size() ? theRope.get(i) : find(2);
        }

        int left() {
            asked = length - takesOf(theRope);
            return theRope.size();
        }

        int reads(int r) {
            if (no(r, 6)) return -1;
            rows.set(r, readOf(theRope, signs));
            return rows.get(r).size();
        }

        int lies(int r) {
            if (no(r, 6)) return -1;
            rows.set(r, new ArrayList<>(theRope));
            return theRope.size();
        }

        int keep(int k) {
            if (no(k, 3)) return -1;
            if (kinds.isEmpty()) return -4;
            kept.set(k, new ArrayList<>(theRope));
            keptLength[k] = length;
            return theRope.size();
        }

        int on(int k) {
            if (no(k, 3)) return -1;
            if (kept.get(k) == null) return find(1);
            theRope = new ArrayList<>(kept.get(k));
            length = keptLength[k];
            return theRope.size();
        }

        int bad(int most, int end, int... which) {
            for (int r : which) if (rows.get(r) == null) return find(1);
            for (int r : which) if (rows.get(r).size() > most) return find(5);
            for (int r : which) for (int v : rows.get(r)) if (no(v, end)) return find(3);
            return 0;
        }

        int badKnots(int... which) {
            return bad(20, kinds.size(), which);
        }

        int badMessage(int... which) {
            return bad(12, 10, which);
        }

        int judge(int r) {
            if (no(r, 6)) return -1;
            if (badKnots(r) != 0) return -3;
            List<Integer> rope = rows.get(r);
            for (int i = 0; i < rope.size(); i++) {
                List<Integer> there = rope.subList(0, i + 1);
                if (!isRight(there)) {
                    asked = lawful(there) ? 2 : 1;
                    return i;
                }
            }
            asked = 0;
            return rope.size();
        }

        int takes(int r) {
            if (no(r, 6)) return -1;
            return badKnots(r) != 0 ? -3 : takesOf(rows.get(r));
        }

        int says(int r, int to) {
            if (no(r, 6) || no(to, 6)) return -1;
            if (badKnots(r) != 0) return -3;
            rows.set(to, readOf(rows.get(r), signs));
            return rows.get(to).size();
        }

        long countFrom(int more, int last, int taken, Map<Integer, Long> known) {
            if (more == 0) {
                return taken + (last >= 0 && kinds.get(last) == 'h' ? 1 : 0) <= length - girth ? 1 : 0;
            }
            if (taken > length - girth) return 0;
            int key = (more * 10 + last + 1) * 1000 + taken;
            Long before = known.get(key);
            if (before != null) return before;
            long sum = 0;
            for (int k = 0; k < kinds.size(); k++) {
                if (last >= 0 && (fact(last, 4) >> k & 1) != 0) continue;
                int t = fact(k, 3) - (last >= 0 && bend(last) && bend(k) ? 1 : 0);
                sum += countFrom(more - 1, k, taken + t, known);
            }
            known.put(key, sum);
            return sum;
        }

        long countOf(int n) {
            return countFrom(n, -1, 0, new HashMap<>());
        }

        int ropes(int n) {
            if (no(n, 21)) return -1;
            upper = countOf(n);
            return 1;
        }

        int nth(int n, int i, int r) {
            if (no(n, 21) || i < 0 || no(r, 6)) return -1;
            if (i >= countOf(n)) return find(4);
            List<Integer> rope = new ArrayList<>();
            Map<Integer, Long> known = new HashMap<>();
            long rest = i;
            while (rope.size() < n) {
                for (int k = 0; k < kinds.size(); k++) {
                    List<Integer> then = plus(rope, k);
                    if (!lawful(then)) continue;
                    int bare = takesOf(then) - (kinds.get(k) == 'h' ? 1 : 0);
                    long many = countFrom(n - then.size(), k, bare, known);
                    if (rest < many) {
                        rope = then;
                        break;
                    }
                    rest -= many;
                }
            }
            rows.set(r, rope);
            return takesOf(rope);
        }

        long upTo(int n) {
            long sum = 0;
            for (int i = 0; !no(n, 21) && i <= n; i++) sum += countOf(i);
            return sum;
        }

        static int order(List<Integer> a, List<Integer> b) {
            for (int i = 0; i < Math.min(a.size(), b.size()); i++) {
                int c = Integer.compare(a.get(i), b.get(i));
                if (c != 0) return c;
            }
            return Integer.compare(a.size(), b.size());
        }

        /** Ropes alike in size, last KNOT, state of reading and what they take go on alike: one of them, and how many. */
        static final class Group {
            List<Integer> first;
            long many;
        }

        List<Integer> best;
        long many;

        /** All ROPES from a beginning on that SAY a MESSAGE: the best one, and how many. */
        void sayings(List<Integer> message, List<Integer> signs, List<Integer> beginning) {
            best = null;
            many = 0;
            TreeMap<String, Group> layer = new TreeMap<>();
            Group start = new Group();
            start.first = new ArrayList<>(beginning);
            start.many = 1;
            layer.put("", start);
            while (!layer.isEmpty()) {
                TreeMap<String, Group> next = new TreeMap<>();
                for (Group g : layer.values()) {
                    if (isRight(g.first) && readOf(g.first, signs).equals(message)) {
                        many += g.many;
                        int c = best == null ? -1 : Integer.compare(takesOf(g.first), takesOf(best));
                        if (c < 0 || c == 0 && order(g.first, best) < 0) best = g.first;
                    }
                    for (int k = 0; k < kinds.size() && g.first.size() < 20; k++) {
                        goOn(next, g, k, message, signs);
                    }
                }
                layer = next;
            }
        }

        void goOn(TreeMap<String, Group> next, Group g, int k, List<Integer> message, List<Integer> signs) {
            List<Integer> then = plus(g.first, k);
            if (!isRight(then)) return;
            List<Integer> read = readOf(then, signs);
            boolean alone = lastAlone(then);
            int settled = read.size() - (alone ? 1 : 0);
            if (read.size() > message.size() || !read.subList(0, settled).equals(message.subList(0, settled))) return;
            String key = read.size() + " " + k + " " + alone + " " + takesOf(then);
            Group had = next.get(key);
            if (had == null) {
                had = new Group();
                had.first = then;
                next.put(key, had);
            } else if (order(then, had.first) < 0) {
                had.first = then;
            }
            had.many += g.many;
        }

        int shortest(int r, int to) {
            if (no(r, 6) || no(to, 6)) return -1;
            if (badMessage(r) != 0) return -3;
            sayings(rows.get(r), signs, new ArrayList<>());
            if (best == null) return -9;
            rows.set(to, new ArrayList<>(best));
            return takesOf(best);
        }

        int ways(int r) {
            if (no(r, 6)) return -1;
            if (badMessage(r) != 0) return -3;
            sayings(rows.get(r), signs, new ArrayList<>());
            upper = many;
            return 1;
        }

        List<Integer> bestWhose;
        int bestTakes;

        void whose(List<Integer> given, List<Integer> message) {
            if (given.size() == kinds.size()) {
                List<Integer> then = new ArrayList<>();
                for (int k : given) then.add(signs.get(k));
                sayings(message, then, new ArrayList<>());
                if (best != null && (bestWhose == null || takesOf(best) < bestTakes)) {
                    bestWhose = given;
                    bestTakes = takesOf(best);
                }
                return;
            }
            for (int k = 0; k < kinds.size(); k++) if (!given.contains(k)) whose(plus(given, k), message);
        }

        int signs(int r, int to) {
            if (no(r, 6) || no(to, 6)) return -1;
            if (badMessage(r) != 0) return -3;
            bestWhose = null;
            whose(new ArrayList<>(), rows.get(r));
            if (bestWhose == null) return -9;
            rows.set(to, new ArrayList<>(bestWhose));
            return bestTakes;
        }

        int change(int r, int to) {
            if (no(r, 6) || no(to, 6)) return -1;
            if (badMessage(r) != 0) return -3;
            for (int u = 0; u <= theRope.size(); u++) {
                int rest = theRope.size() - u;
                if (u > 0 && kinds.get(theRope.get(rest)) == 'w') return -9;
                sayings(rows.get(r), signs, theRope.subList(0, rest));
                if (best != null) {
                    rows.set(to, new ArrayList<>(best));
                    return u;
                }
            }
            return -9;
        }

        void allUpTo(int n, List<Integer> rope, List<List<Integer>> all) {
            if (!isRight(rope)) return;
            all.add(rope);
            if (rope.size() == n) return;
            for (int k = 0; k < kinds.size(); k++) allUpTo(n, plus(rope, k), all);
        }

        int both(int r, int q, int to) {
            if (no(r, 6) || no(q, 6) || no(to, 6)) return -1;
            if (badMessage(r, q) != 0) return -3;
            List<List<Integer>> all = new ArrayList<>();
            allUpTo(5, new ArrayList<>(), all);
            List<Integer> found = null;
            for (List<Integer> rope : all) {
                List<Integer> back = new ArrayList<>(rope);
                java.util.Collections.reverse(back);
                if (readOf(rope, signs).equals(rows.get(r)) && readOf(back, signs).equals(rows.get(q))) {
                    int c = found == null ? -1 : Integer.compare(takesOf(rope), takesOf(found));
                    if (c < 0 || c == 0 && order(rope, found) < 0) found = rope;
                }
            }
            if (found == null) return -9;
            rows.set(to, new ArrayList<>(found));
            return takesOf(found);
        }

        static List<Integer> less(List<Integer> rope, int i) {
            List<Integer> rest = new ArrayList<>(rope);
            rest.remove(i);
            return rest;
        }

        int slips(int r) {
            if (no(r, 6)) return -1;
            if (badKnots(r) != 0) return -3;
            Set<List<Integer>> unlike = new HashSet<>();
            int bits = 0;
            for (int i = 0; i < rows.get(r).size(); i++) {
                List<Integer> read = readOf(less(rows.get(r), i), signs);
                unlike.add(read);
                if (read.equals(readOf(rows.get(r), signs))) bits |= 1 << i;
            }
            asked = bits;
            return unlike.size();
        }

        Set<List<Integer>> maybe(List<Integer> rope) {
            Set<List<Integer>> set = new HashSet<>();
            set.add(readOf(rope, signs));
            for (int i = 0; i < rope.size(); i++) set.add(readOf(less(rope, i), signs));
            return set;
        }

        int apart(int r, int q) {
            if (no(r, 6) || no(q, 6)) return -1;
            if (badKnots(r, q) != 0) return -3;
            Set<List<Integer>> common = maybe(rows.get(r));
            common.retainAll(maybe(rows.get(q)));
            return common.isEmpty() ? 1 : 0;
        }

        int lent(int r) {
            if (no(r, 6)) return -1;
            if (bad(19, kinds.size(), r) != 0) return -3;
            Set<List<Integer>> ropes = new HashSet<>();
            for (int i = 0; i <= rows.get(r).size(); i++) {
                for (int k = 0; k < kinds.size(); k++) {
                    List<Integer> rope = new ArrayList<>(rows.get(r));
                    rope.add(i, k);
                    if (kinds.get(k) != 'w' && isRight(rope)) ropes.add(rope);
                }
            }
            int bits = ropes.isEmpty() ? 0 : 1023;
            for (List<Integer> rope : ropes) {
                int here = 0;
                for (int s : readOf(rope, signs)) here |= 1 << s;
                bits &= here;
            }
            asked = bits;
            return ropes.size();
        }

        static List<Integer> joined(List<Integer> rope, int i) {
            List<Integer> then = new ArrayList<>(rope.subList(i, rope.size()));
            then.addAll(rope.subList(0, i));
            return then;
        }

        int moths(int r, int i, int to) {
            if (no(r, 6) || no(to, 6)) return -1;
            if (badKnots(r) != 0) return -3;
            if (no(i, rows.get(r).size() + 1)) return find(2);
            rows.set(to, joined(rows.get(r), i));
            return takesOf(rows.get(to));
        }

        int cuts(int r) {
            if (no(r, 6)) return -1;
            if (badKnots(r) != 0) return -3;
            List<Integer> places = new ArrayList<>();
            for (int i = 1; i < rows.get(r).size(); i++) if (isRight(joined(rows.get(r), i))) places.add(i);
            asked = places.isEmpty() ? -9 : places.get(0);
            return places.size();
        }

        int packs(int r) {
            if (no(r, 6)) return -1;
            if (bad(6, 100, r) != 0) return -3;
            List<Integer> matters = rows.get(r);
            for (int v : matters) if (v > length - girth) return -9;
            int n = matters.size();
            int fewest = n + 1;
            int least = 0;
            int all = (int) Math.pow(6, n);
            for (int way = 0; way < all; way++) {
                int[] load = new int[6];
                Set<Integer> used = new HashSet<>();
                int rest = way;
                int first = way % 6;
                int bits = 0;
                boolean fits = true;
                for (int i = 0; i < n; i++) {
                    int rope = rest % 6;
                    rest /= 6;
                    load[rope] += matters.get(i);
                    used.add(rope);
                    if (rope == first) bits |= 1 << i;
                    fits &= load[rope] <= length - girth;
                }
                if (fits && (used.size() < fewest || used.size() == fewest && bits < least)) {
                    fewest = used.size();
                    least = bits;
                }
            }
            asked = n == 0 ? 0 : least;
            return fewest;
        }

        int lots(int n, int seed, int r) {
            if (no(n, 21) || seed < 1 || seed > 2147483646 || no(r, 6)) return -1;
            List<Integer> rope = new ArrayList<>();
            long number = seed;
            while (rope.size() < n) {
                number = 48271L * number % 2147483647L;
                List<Integer> can = new ArrayList<>();
                for (int k = 0; k < kinds.size(); k++) if (isRight(plus(rope, k))) can.add(k);
                if (can.isEmpty()) break;
                rope.add(can.get((int) (number % can.size())));
            }
            rows.set(r, rope);
            return rope.size();
        }

        int count(int what) {
            int c = 0;
            switch (what) {
                case 0: return kinds.size();
                case 1: return theRope.size();
                case 2: for (int k = 0; k < kinds.size(); k++) if (loop(k)) c++; return c;
                case 3: for (int k = 0; k < kinds.size(); k++) if (bend(k)) c++; return c;
                case 4: return laws.size();
                case 5: return pairs.size();
                case 6: for (List<Integer> r : rows) if (r != null) c++; return c;
                case 7: for (byte[] t : texts) if (t != null) c++; return c;
                case 8: for (List<Integer> r : kept) if (r != null) c++; return c;
                default: return -1;
            }
        }

        long digest() {
            List<Integer> all = new ArrayList<>();
            for (int i = 0; i < 9; i++) all.add(count(i));
            all.add(length);
            all.add(girth);
            for (int k = 0; k < kinds.size(); k++) for (int w = 0; w < 5; w++) all.add(fact(k, w));
            for (int[] p : pairs) for (int v : p) all.add(v);
            all.addAll(theRope);
            for (List<Integer> r : kept) all.add(r == null ? -1 : r.size());
            for (List<Integer> r : rows) {
                all.add(r == null ? -1 : r.size());
                if (r != null) all.addAll(r);
            }
            for (byte[] t : texts) {
                all.add(t == null ? -1 : t.length);
                for (int i = 0; t != null && i < t.length; i++) all.add((int) t[i]);
            }
            long h = 17;
            for (int v : all) h = 31 * h + v;
            return h;
        }
    }
}

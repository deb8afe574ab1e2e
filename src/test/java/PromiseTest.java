/** For each promise of the document: ordinary inputs, the edges it names, wrong inputs and the order of refusals. */
public final class PromiseTest {
    private static final int BAD = -1, FULL = -2, FINDING = -3, STATE = -4, NONE = -9;
    private static final int NOTHING = 1, BEYOND = 2, UNLIKE = 3, NOUGHT = 4, SIZE = 5;

    /** All KINDS (KNOT 0, LOOP 1, BEND 2, HITCH 3, SHEEP 4, WILL 5), two LAWS, four PAIRS, one of them with a SHEEP. */
    private static final String ALL = "r4010 k21 o12 b23 h31 s12 w24 x00x13 y014y252y421y003";
    /** Two KNOTS that take 1 and 2, no LAWS, PAIRS of each with itself; 7 may be taken. */
    private static final String TWO = "r1205k10k21y002y113";

    private static int wrong = 0;
    private static int checks = 0;
    private static KnotRopes x = new KnotRopes();
    private static int promise;

    public static void main(String[] args) {
        newObject();
        row();
        layAndAt();
        tear();
        copy();
        mean();
        textAndPut();
        fault();
        craft();
        knot();
        mark();
        length();
        sign();
        tie();
        untie();
        rope();
        left();
        reads();
        lies();
        keep();
        on();
        judge();
        takes();
        says();
        ropes();
        nth();
        shortest();
        ways();
        signs();
        change();
        both();
        slips();
        apart();
        lent();
        moths();
        cuts();
        packs();
        lots();
        asked();
        upper();
        upTo();
        count();
        finding();
        digest();
        System.out.println(wrong == 0 ? checks + " answers are as due" : wrong + " answers are not as due");
        if (wrong != 0) {
            System.exit(1);
        }
    }

    // ---- how it is told

    private static void begin(int number, String craft) {
        promise = number;
        x = new KnotRopes();
        if (!craft.isEmpty()) {
            tell(0, craft);
            if (x.craft(0) < 0) {
                wrong++;
                System.out.println("promise " + number + ": no craft: " + craft);
            }
        }
    }

    private static void tell(int t, String text) {
        x.text(t, text.length());
        for (int i = 0; i < text.length(); i++) {
            x.put(t, i, text.charAt(i));
        }
    }

    private static void row(int r, int... values) {
        x.row(r, values.length);
        for (int i = 0; i < values.length; i++) {
            x.lay(r, i, values[i]);
        }
    }

    private static void tieAll(int... knots) {
        for (int k : knots) {
            if (x.tie(k) < 0) {
                wrong++;
                System.out.println("promise " + promise + ": " + k + " was not tied");
            }
        }
    }

    private static void due(String call, long got, long want) {
        checks++;
        if (got != want) {
            wrong++;
            System.out.println("promise " + promise + ": " + call + " answered " + got + ", due is " + want);
        }
    }

    /** A refusal with a FINDING; nothing but this may have changed. */
    private static void dueFinding(String call, long got, int finding) {
        due(call, got, FINDING);
        due(call + ", finding()", x.finding(), finding);
    }

    private static void dueAsked(String call, long got, long want, int asked) {
        due(call, got, want);
        due(call + ", asked()", x.asked(), asked);
    }

    private static void dueRow(int r, int... values) {
        int there = 0;
        while (x.at(r, there) == 1) {
            there++;
        }
        due("the size of row " + r, there, values.length);
        for (int i = 0; i < values.length; i++) {
            due("at(" + r + ", " + i + ")", x.at(r, i), 1);
            due("place " + i + " of row " + r, x.asked(), values[i]);
        }
    }

    private static void dueMissing(int r) {
        dueFinding("tear(" + r + ")", x.tear(r), NOTHING);
    }

    // ---- 1 rows, texts, crafts

    private static void newObject() {
        begin(1, "");
        for (int i = 0; i < 9; i++) {
            due("count(" + i + ")", x.count(i), 0);
        }
        dueAsked("left()", x.left(), 0, 0);
        due("upper()", x.upper(), 0);
        due("finding()", x.finding(), 0);
        due("length(1)", x.length(1), STATE);
        due("digest()", x.digest(), emptyDigest());
        for (int r = 0; r < 6; r++) {
            dueMissing(r);
        }
        for (int t = 0; t < 4; t++) {
            dueFinding("fault(" + t + ")", x.fault(t), NOTHING);
        }
        due("ropes(0)", x.ropes(0), 1);
        due("upper()", x.upper(), 1);
        begin(1, "");
        x.row(0, 0);
        due("shortest(0, 1)", x.shortest(0, 1), 0);
        due("signs(0, 2)", x.signs(0, 2), 0);
        due("change(0, 3)", x.change(0, 3), 0);
        due("both(0, 0, 4)", x.both(0, 0, 4), 0);
        due("count(6)", x.count(6), 5);
    }

    private static long emptyDigest() {
        long h = 17;
        for (int i = 0; i < 9 + 2; i++) {
            h = 31 * h;
        }
        for (int i = 0; i < 3 + 6 + 4; i++) {
            h = 31 * h - 1;
        }
        return h;
    }

    private static void row() {
        begin(2, "");
        due("row(0, 3)", x.row(0, 3), 3);
        dueRow(0, 0, 0, 0);
        x.lay(0, 2, 7);
        due("row(0, 0)", x.row(0, 0), 0);
        dueRow(0);
        due("row(0, 40)", x.row(0, 40), 40);
        dueRow(0, new int[40]);
        due("row(5, 1)", x.row(5, 1), 1);
        due("row(0, 41)", x.row(0, 41), BAD);
        due("row(6, 1)", x.row(6, 1), BAD);
        due("row(-1, -1)", x.row(-1, -1), BAD);
        due("row(6, 41)", x.row(6, 41), BAD);
        x.lay(0, 39, 5);
        int before = x.findings(SIZE);
        dueFinding("row(0, -1)", x.row(0, -1), SIZE);
        due("findings(5)", x.findings(SIZE), before + 1);
        x.at(0, 39);
        due("what row 0 kept", x.asked(), 5);
    }

    private static void layAndAt() {
        begin(3, "");
        x.row(2, 2);
        dueAsked("lay(2, 1, -7)", x.lay(2, 1, -7), 1, 0);
        dueAsked("lay(2, 1, 9)", x.lay(2, 1, 9), 1, -7);
        due("lay(6, 0, 0)", x.lay(6, 0, 0), BAD);
        due("lay(-1, 0, 0)", x.lay(-1, 0, 0), BAD);
        dueFinding("lay(3, 9, 0)", x.lay(3, 9, 0), NOTHING);
        dueFinding("lay(2, 2, 0)", x.lay(2, 2, 0), BEYOND);
        dueFinding("lay(2, -1, 0)", x.lay(2, -1, 0), BEYOND);
        due("asked()", x.asked(), -7);
        dueRow(2, 0, 9);
        promise = 4;
        dueAsked("at(2, 1)", x.at(2, 1), 1, 9);
        due("at(6, 0)", x.at(6, 0), BAD);
        due("at(-1, 0)", x.at(-1, 0), BAD);
        dueFinding("at(3, 9)", x.at(3, 9), NOTHING);
        dueFinding("at(2, 2)", x.at(2, 2), BEYOND);
        dueFinding("at(2, -1)", x.at(2, -1), BEYOND);
        due("asked()", x.asked(), 9);
        row(4, Integer.MAX_VALUE, Integer.MIN_VALUE);
        dueRow(4, Integer.MAX_VALUE, Integer.MIN_VALUE);
    }

    private static void tear() {
        begin(5, "");
        x.row(1, 0);
        due("tear(1)", x.tear(1), 1);
        dueMissing(1);
        due("tear(6)", x.tear(6), BAD);
        due("tear(-1)", x.tear(-1), BAD);
        due("count(6)", x.count(6), 0);
    }

    private static void copy() {
        begin(6, "");
        row(0, 1, 2, 3, 4, 5);
        row(1, 9, 9);
        due("copy(0, 3, 1, 0, 2)", x.copy(0, 3, 1, 0, 2), 1);
        dueRow(1, 4, 5);
        due("copy(0, 0, 0, 1, 4)", x.copy(0, 0, 0, 1, 4), 1);
        dueRow(0, 1, 1, 2, 3, 4);
        due("copy(0, 1, 0, 0, 4)", x.copy(0, 1, 0, 0, 4), 1);
        dueRow(0, 1, 2, 3, 4, 4);
        due("copy(0, 5, 1, 2, 0)", x.copy(0, 5, 1, 2, 0), 1);
        due("copy(6, 0, 0, 0, -1)", x.copy(6, 0, 0, 0, -1), BAD);
        due("copy(0, 0, -1, 0, -1)", x.copy(0, 0, -1, 0, -1), BAD);
        dueFinding("copy(5, 0, 0, 0, -1)", x.copy(5, 0, 0, 0, -1), SIZE);
        dueFinding("copy(5, -1, 0, 0, 0)", x.copy(5, -1, 0, 0, 0), NOTHING);
        dueFinding("copy(0, 0, 5, 0, 90)", x.copy(0, 0, 5, 0, 90), NOTHING);
        dueFinding("copy(0, 6, 1, 0, 0)", x.copy(0, 6, 1, 0, 0), BEYOND);
        dueFinding("copy(0, -1, 1, 0, 0)", x.copy(0, -1, 1, 0, 0), BEYOND);
        dueFinding("copy(0, 0, 1, 3, 0)", x.copy(0, 0, 1, 3, 0), BEYOND);
        dueFinding("copy(0, 0, 1, -1, 0)", x.copy(0, 0, 1, -1, 0), BEYOND);
        dueFinding("copy(0, 0, 1, 1, 2)", x.copy(0, 0, 1, 1, 2), BEYOND);
        dueFinding("copy(1, 1, 0, 0, 2)", x.copy(1, 1, 0, 0, 2), BEYOND);
        int most = Integer.MAX_VALUE;
        dueFinding("copy(0, 1, 1, 1, most)", x.copy(0, 1, 1, 1, most), BEYOND);
        dueFinding("copy(0, most, 1, most, most)", x.copy(0, most, 1, most, most), BEYOND);
        dueFinding("copy(0, 0, 1, most, 1)", x.copy(0, 0, 1, most, 1), BEYOND);
        dueRow(1, 4, 5);
    }

    private static void mean() {
        begin(7, "");
        row(0, 1, 2);
        dueAsked("mean(0)", x.mean(0), 1, 1);
        row(0, -1, -2);
        dueAsked("mean(0)", x.mean(0), 1, -1);
        row(0, Integer.MAX_VALUE, Integer.MAX_VALUE, Integer.MAX_VALUE);
        dueAsked("mean(0)", x.mean(0), 1, Integer.MAX_VALUE);
        row(0, Integer.MIN_VALUE, Integer.MIN_VALUE);
        dueAsked("mean(0)", x.mean(0), 1, Integer.MIN_VALUE);
        due("mean(6)", x.mean(6), BAD);
        dueFinding("mean(1)", x.mean(1), NOTHING);
        x.row(1, 0);
        dueFinding("mean(1)", x.mean(1), NOUGHT);
        due("asked()", x.asked(), Integer.MIN_VALUE);
    }

    private static void textAndPut() {
        begin(8, "");
        due("text(3, 80)", x.text(3, 80), 80);
        due("text(0, 0)", x.text(0, 0), 0);
        due("text(4, 1)", x.text(4, 1), BAD);
        due("text(-1, -1)", x.text(-1, -1), BAD);
        due("text(0, 81)", x.text(0, 81), BAD);
        dueFinding("text(0, -1)", x.text(0, -1), SIZE);
        due("count(7)", x.count(7), 2);
        due("put(3, 79, 1)", x.put(3, 79, 1), 1032);
        x.text(3, 80);
        due("put(3, 79, 1)", x.put(3, 79, 1), 1032);
        promise = 9;
        due("put(3, 0, 200)", x.put(3, 0, 200), 1032);
        due("put(3, 0, 128)", x.put(3, 0, 128), 1000 - 56);
        due("put(3, 0, 127)", x.put(3, 0, 127), 1000 - 128);
        due("put(3, 0, 256)", x.put(3, 0, 256), 1127);
        due("put(3, 0, -1)", x.put(3, 0, -1), 1000);
        due("put(3, 0, 0)", x.put(3, 0, 0), 999);
        due("put(4, 0, 0)", x.put(4, 0, 0), BAD);
        due("put(-1, 0, 0)", x.put(-1, 0, 0), BAD);
        dueFinding("put(1, 99, 0)", x.put(1, 99, 0), NOTHING);
        dueFinding("put(3, 80, 0)", x.put(3, 80, 0), BEYOND);
        dueFinding("put(3, -1, 0)", x.put(3, -1, 0), BEYOND);
        dueFinding("put(0, 0, 0)", x.put(0, 0, 0), BEYOND);
    }

    private static void dueFault(String text, int want) {
        tell(0, text);
        due("the fault of '" + text + "'", x.fault(0), want);
        due("craft of '" + text + "' is refused", x.craft(0) == STATE ? 1 : 0, want == NONE ? 0 : 1);
    }

    private static void fault() {
        begin(10, "");
        due("fault(4)", x.fault(4), BAD);
        due("fault(-1)", x.fault(-1), BAD);
        dueFinding("fault(0)", x.fault(0), NOTHING);
        String six = "k11k11k11k11k11k11";
        String[] good = {"r0000", "  r9999  ", "r1010k10", "r9900" + six + "x00x00x00x00x00x00", "r9900k11y009y008",
            " r1000 k11 x00 y000 ", "r9900" + six + "x55y559", "r1000k11x00y000y000y000y000y000y000"};
        for (String text : good) {
            dueFault(text, NONE);
        }
        dueFault("", 0);
        dueFault("   ", 3);
        dueFault("k1000", 0);
        dueFault(" x", 1);
        dueFault("R1000", 0);
        dueFault("r", 1);
        dueFault("ra000", 1);
        dueFault("r1 00", 2);
        dueFault("r10:0", 3);
        dueFault("r10/0", 3);
        dueFault("r100", 4);
        dueFault("r109", 4);
        dueFault("r109 ", 4);
        dueFault("r1011", 3);
        dueFault(" r0910k", 4);
        dueFault("r1011zzz", 3);
        dueFault("r1000r1000", 5);
        dueFault("r1000 1", 6);
        dueFault("r1000k", 6);
        dueFault("r1000k01", 6);
        dueFault("r1000k1", 7);
        dueFault("r1000k1 ", 7);
        dueFault("r1000k1x", 7);
        dueFault("r1000 k11z", 9);
        dueFault("r1000x00", 6);
        dueFault("r1000y00", 6);
        dueFault("r1000k11x", 9);
        dueFault("r1000k11x1", 9);
        dueFault("r1000k11x01", 10);
        dueFault("r1000k11x0", 10);
        dueFault("r1000k11x0 ", 10);
        dueFault("r1000k11x00k11", 11);
        dueFault("r1000k11y000k11", 12);
        dueFault("r1000k11y000x00", 12);
        dueFault("r1000k11y1", 9);
        dueFault("r1000k11y01", 10);
        dueFault("r1000k11y00", 11);
        dueFault("r1000k11y00z", 11);
        dueFault("r9900" + six + "k11", 23);
        dueFault("r9900" + six + " w", 24);
        dueFault("r9900" + six + "x60", 24);
        dueFault("r1000k11x00x00x00x00x00x00x00", 26);
        dueFault("r1000k11y000y000y000y000y000y000y000", 32);
        x.text(0, 1);
        x.put(0, 0, 114 + 256);
        due("a byte is cut ahead of its reading", x.fault(0), 1);
        x.put(0, 0, -14);
        due("fault of a byte below 0", x.fault(0), 0);
    }

    private static void craft() {
        begin(11, "");
        due("craft(4)", x.craft(4), BAD);
        due("craft(-1)", x.craft(-1), BAD);
        dueFinding("craft(0)", x.craft(0), NOTHING);
        tell(0, "r99");
        due("craft(0)", x.craft(0), STATE);
        tell(1, ALL);
        due("craft(1)", x.craft(1), 6);
        tieAll(5);
        x.keep(1);
        due("craft(0)", x.craft(0), STATE);
        due("count(0)", x.count(0), 6);
        due("count(1)", x.count(1), 1);
        due("count(8)", x.count(8), 1);
        tell(0, "r3020");
        due("craft(0)", x.craft(0), 0);
        dueAsked("left()", x.left(), 0, 30);
        due("count(0)", x.count(0), 0);
        due("count(4)", x.count(4), 0);
        due("count(5)", x.count(5), 0);
        due("count(8)", x.count(8), 0);
        dueFinding("on(1)", x.on(1), NOTHING);
        tell(2, "r0900 k11 k11");
        due("craft(2)", x.craft(2), 2);
        due("tie(0)", x.tie(0), 8);
        due("a law of before is gone: tie(0)", x.tie(0), 7);
        due("reads(0)", x.reads(0), 2);
    }

    private static void knot() {
        begin(12, ALL);
        int[][] due = {{0, 2, 1, 2, 1}, {1, 1, 2, 2, 8}, {2, 2, 3, 2, 0}, {3, 3, 1, 6, 0}, {4, 1, 2, 1, 0}, {5, 2, 4, 2, 0}};
        for (int k = 0; k < 6; k++) {
            for (int what = 0; what < 5; what++) {
                dueAsked("knot(" + k + ", " + what + ")", x.knot(k, what), 1, due[k][what]);
            }
        }
        x.knot(3, 3);
        due("knot(6, 0)", x.knot(6, 0), BAD);
        due("knot(-1, 0)", x.knot(-1, 0), BAD);
        due("knot(0, 5)", x.knot(0, 5), BAD);
        due("knot(0, -1)", x.knot(0, -1), BAD);
        due("asked()", x.asked(), 6);
        begin(12, "r3000k11k11x00x01x01");
        dueAsked("knot(0, 4)", x.knot(0, 4), 1, 3);
        due("knot(2, 0)", x.knot(2, 0), BAD);
        begin(12, "");
        due("knot(0, 0)", x.knot(0, 0), BAD);
    }

    private static void mark() {
        begin(13, ALL);
        int[][] due = {{-3, -3, -3, -3, -3}, {1, -3, -3, -3, -3}, {-3, 1, -3, -3, -3},
            {3, -3, 7, -3, -3}, {-3, 0, -3, 1, -3}, {-3, -3, -3, -3, 0}};
        for (int k = 0; k < 6; k++) {
            for (int kind = 1; kind <= 5; kind++) {
                due("mark(" + k + ", " + kind + ")", x.mark(k, kind), due[k][kind - 1]);
            }
        }
        due("findings(3)", x.findings(UNLIKE), 23);
        due("finding()", x.finding(), UNLIKE);
        due("mark(6, 1)", x.mark(6, 1), BAD);
        due("mark(-1, 1)", x.mark(-1, 1), BAD);
        due("mark(0, 0)", x.mark(0, 0), BAD);
        due("mark(1, 0)", x.mark(1, 0), BAD);
        due("mark(0, 6)", x.mark(0, 6), BAD);
        tieAll(5, 0, 5);
        due("mark(5, 5)", x.mark(5, 5), 2);
        begin(13, "r3000s10s90w10w10y009y001y018y107y110");
        due("mark(0, 4)", x.mark(0, 4), 4);
        due("mark(1, 4)", x.mark(1, 4), 3);
        due("mark(1, 2)", x.mark(1, 2), 8);
        tieAll(2, 3, 3);
        due("mark(2, 5)", x.mark(2, 5), 1);
        due("mark(3, 5)", x.mark(3, 5), 2);
    }

    private static void length() {
        begin(14, "");
        due("length(0)", x.length(0), BAD);
        due("length(100)", x.length(100), BAD);
        due("length(5)", x.length(5), STATE);
        tell(0, "r2010");
        x.craft(0);
        due("length(15) without knots", x.length(15), STATE);
        begin(14, ALL);
        tieAll(1, 1);
        due("length(99)", x.length(99), 40);
        due("length(10)", x.length(10), 99);
        due("length(9)", x.length(9), STATE);
        due("length(0)", x.length(0), BAD);
        dueAsked("left()", x.left(), 2, 6);
        due("tie(1)", x.tie(1), STATE);
        due("length(16)", x.length(16), 10);
        due("tie(1)", x.tie(1), 10);
    }

    private static void sign() {
        begin(15, TWO);
        due("sign(0, 9)", x.sign(0, 9), 0);
        due("sign(0, 7)", x.sign(0, 7), 9);
        due("sign(0, 10)", x.sign(0, 10), BAD);
        due("sign(0, -1)", x.sign(0, -1), BAD);
        due("sign(2, 0)", x.sign(2, 0), BAD);
        due("sign(-1, 0)", x.sign(-1, 0), BAD);
        tieAll(0, 1);
        x.reads(0);
        dueRow(0, 7, 1);
        begin(15, "");
        due("sign(0, 0)", x.sign(0, 0), BAD);
    }

    // ---- 2 the rope

    private static void tie() {
        begin(16, ALL);
        due("tie(6)", x.tie(6), BAD);
        due("tie(-1)", x.tie(-1), BAD);
        due("tie(3): a HITCH as the last one", x.tie(3), 33);
        due("tie(4): the HITCH is not the last one", x.tie(4), 33);
        due("tie(4): just behind a SHEEP", x.tie(4), 33);
        due("tie(2): just behind a SHEEP", x.tie(2), 32);
        due("tie(0)", x.tie(0), 30);
        due("tie(0): a law", x.tie(0), STATE);
        due("count(1)", x.count(1), 5);
        begin(16, TWO);
        tieAll(1, 1, 1);
        due("tie(1): below the girth", x.tie(1), STATE);
        due("tie(0): just the girth", x.tie(0), 5);
        due("tie(0)", x.tie(0), STATE);
        begin(16, "r0700h30");
        due("tie(0): the last HITCH", x.tie(0), 0);
        begin(16, "r0600h30");
        due("tie(0): the last HITCH", x.tie(0), STATE);
        begin(16, "r3000k11k21x11");
        for (int i = 0; i < 20; i++) {
            due("tie(0)", x.tie(0), 29 - i);
        }
        due("tie(0)", x.tie(0), FULL);
        due("tie(2)", x.tie(2), BAD);
        x.length(20);
        due("tie(0): not right is told ahead of full", x.tie(0), STATE);
        due("count(1)", x.count(1), 20);
        x.length(99);
        x.untie(1);
        tieAll(1);
        due("tie(1): a law is told ahead of full", x.tie(1), STATE);
        due("tie(0)", x.tie(0), FULL);
    }

    private static void untie() {
        begin(17, ALL);
        due("untie(0)", x.untie(0), 0);
        due("untie(1)", x.untie(1), BAD);
        tieAll(1, 5, 2, 2);
        due("untie(-1)", x.untie(-1), BAD);
        due("untie(5)", x.untie(5), BAD);
        due("untie(3)", x.untie(3), STATE);
        due("untie(4)", x.untie(4), STATE);
        due("count(1)", x.count(1), 4);
        due("untie(1)", x.untie(1), 3);
        due("untie(1)", x.untie(1), 2);
        due("untie(1)", x.untie(1), STATE);
        due("untie(3)", x.untie(3), BAD);
        due("untie(0)", x.untie(0), 2);
        due("untie(21)", x.untie(21), BAD);
        due("rope(1)", x.rope(1), 5);
    }

    private static void rope() {
        begin(18, ALL);
        dueFinding("rope(0)", x.rope(0), BEYOND);
        tieAll(2, 1);
        due("rope(0)", x.rope(0), 2);
        due("rope(1)", x.rope(1), 1);
        dueFinding("rope(2)", x.rope(2), BEYOND);
        due("rope(-1)", x.rope(-1), BAD);
        dueFinding("rope(20)", x.rope(20), BEYOND);
    }

    private static void left() {
        begin(19, ALL);
        dueAsked("left()", x.left(), 0, 40);
        tieAll(2, 2, 3);
        dueAsked("left()", x.left(), 3, 40 - 2 - 1 - 7);
        begin(19, TWO);
        tieAll(1, 1, 1);
        x.length(5);
        dueAsked("left()", x.left(), 3, -1);
    }

    private static void reads() {
        begin(20, ALL);
        due("reads(3)", x.reads(3), 0);
        dueRow(3);
        tieAll(0, 1, 2, 5, 4, 2, 0);
        due("reads(3)", x.reads(3), 5);
        dueRow(3, 4, 2, 2, 3, 1);
        due("reads(6)", x.reads(6), BAD);
        due("reads(-1)", x.reads(-1), BAD);
        begin(20, "r9000k11k22y009y008y017");
        tieAll(0, 0, 0, 1);
        due("reads(0): the first one of alike ones, from the beginning", x.reads(0), 2);
        dueRow(0, 9, 7);
        tieAll(0);
        due("reads(0): the last one alone", x.reads(0), 3);
        dueRow(0, 9, 7, 1);
    }

    private static void lies() {
        begin(21, ALL);
        due("lies(3)", x.lies(3), 0);
        dueRow(3);
        tieAll(0, 1, 2);
        due("lies(3)", x.lies(3), 3);
        dueRow(3, 0, 1, 2);
        x.lay(3, 0, 5);
        due("rope(0)", x.rope(0), 0);
        due("lies(6)", x.lies(6), BAD);
        due("lies(-1)", x.lies(-1), BAD);
    }

    private static void keep() {
        begin(22, "");
        due("keep(0)", x.keep(0), STATE);
        due("keep(3)", x.keep(3), BAD);
        due("keep(-1)", x.keep(-1), BAD);
        begin(22, TWO);
        due("keep(2)", x.keep(2), 0);
        due("count(8)", x.count(8), 1);
        tieAll(0, 1);
        due("keep(2)", x.keep(2), 2);
        due("keep(0)", x.keep(0), 2);
        due("count(8)", x.count(8), 2);
    }

    private static void on() {
        begin(23, ALL);
        due("on(3)", x.on(3), BAD);
        due("on(-1)", x.on(-1), BAD);
        dueFinding("on(1)", x.on(1), NOTHING);
        tieAll(1, 5);
        x.keep(1);
        tieAll(0);
        x.length(12);
        x.keep(0);
        due("on(1)", x.on(1), 2);
        dueAsked("left()", x.left(), 2, 36);
        due("rope(1)", x.rope(1), 5);
        due("on(0): not right", x.on(0), 3);
        dueAsked("left()", x.left(), 3, 6);
        due("tie(2)", x.tie(2), STATE);
        due("on(1)", x.on(1), 2);
        tieAll(2);
        due("what is kept stays: on(1)", x.on(1), 2);
    }

    // ---- 3 ropes told by rows

    /** What each call with a ROW of KNOTS refuses, in the order that the document tells. */
    private interface OfKnots {
        int call(int r);
    }

    private static void dueKnotRefusals(String name, int most, OfKnots calls) {
        begin(promise, ALL);
        due(name + "(6)", calls.call(6), BAD);
        due(name + "(-1)", calls.call(-1), BAD);
        dueFinding(name + " of a missing row", calls.call(3), NOTHING);
        x.row(3, most + 1);
        x.lay(3, 0, 9);
        dueFinding(name + " of too many", calls.call(3), SIZE);
        x.row(3, most);
        x.lay(3, most - 1, 6);
        dueFinding(name + " of no knot", calls.call(3), UNLIKE);
        x.lay(3, most - 1, -1);
        dueFinding(name + " of no knot", calls.call(3), UNLIKE);
        due("asked()", x.asked(), 6);
        x.lay(3, most - 1, 5);
        due(name + " of enough is not refused", calls.call(3) < 0 ? 1 : 0, 0);
    }

    private static void judge() {
        promise = 24;
        dueKnotRefusals("judge", 20, r -> x.judge(r));
        begin(24, ALL);
        row(0, 0, 1, 2);
        dueAsked("judge(0)", x.judge(0), 3, 0);
        row(0, 0, 1, 3, 0);
        dueAsked("judge(0)", x.judge(0), 2, 1);
        x.row(0, 0);
        dueAsked("judge(0)", x.judge(0), 0, 0);
        begin(24, "r1003h30k10x01x10");
        row(0, 0, 1);
        dueAsked("judge(0): a law", x.judge(0), 1, 1);
        row(0, 1, 1, 0);
        dueAsked("judge(0): a law is told first", x.judge(0), 2, 1);
        row(0, 0, 0);
        dueAsked("judge(0)", x.judge(0), 1, 2);
        begin(24, "r1003h30k10");
        row(0, 1, 0, 1);
        dueAsked("judge(0): as if it ended there", x.judge(0), 1, 2);
        row(0, 0, 1);
        dueAsked("judge(0)", x.judge(0), 2, 0);
    }

    private static void takes() {
        promise = 25;
        dueKnotRefusals("takes", 20, r -> x.takes(r));
        begin(25, ALL);
        x.row(0, 0);
        due("takes(0)", x.takes(0), 0);
        row(0, 3);
        due("takes(0)", x.takes(0), 7);
        row(0, 3, 3);
        due("takes(0)", x.takes(0), 13);
        row(0, 2, 4, 2, 0, 2);
        due("takes(0)", x.takes(0), 2 + 0 + 1 + 2 + 2);
        row(0, 1, 2);
        due("takes(0)", x.takes(0), 4);
        row(0, 3, 3, 3, 3, 3, 3, 3, 3);
        due("takes(0): more than the length", x.takes(0), 49);
    }

    private static void says() {
        promise = 26;
        dueKnotRefusals("says", 20, r -> x.says(r, 1));
        begin(26, ALL);
        row(0, 0, 0, 0, 1, 4, 2);
        due("says(0, 6)", x.says(0, 6), BAD);
        due("says(0, -1)", x.says(0, -1), BAD);
        due("says(0, 1)", x.says(0, 1), 4);
        dueRow(1, 3, 4, 2, 3);
        due("says(0, 0)", x.says(0, 0), 4);
        dueRow(0, 3, 4, 2, 3);
        due("says(5, 6)", x.says(5, 6), BAD);
    }

    private static void ropes() {
        begin(27, TWO);
        long[] due = {1, 2, 4, 8, 1 + 4 + 6 + 4, 1 + 5 + 10, 1 + 6, 1, 0};
        for (int n = 0; n < due.length; n++) {
            due("ropes(" + n + ")", x.ropes(n), 1);
            due("upper()", x.upper(), due[n]);
        }
        due("ropes(4)", x.ropes(4), 1);
        due("ropes(21)", x.ropes(21), BAD);
        due("ropes(-1)", x.ropes(-1), BAD);
        due("upper()", x.upper(), 15);
        x.length(8);
        due("ropes(4)", x.ropes(4), 1);
        due("upper()", x.upper(), 0);
        due("ropes(3)", x.ropes(3), 1);
        due("upper()", x.upper(), 1);
        begin(27, "r9900b11b11b11b11b11b11");
        due("ropes(20)", x.ropes(20), 1);
        due("upper()", x.upper(), 3656158440062976L);
        begin(27, "r0600h30k10");
        due("ropes(1)", x.ropes(1), 1);
        due("upper(): a HITCH as the last one takes 7", x.upper(), 1);
        begin(27, "r9900k11k11x01x10");
        x.ropes(20);
        due("upper()", x.upper(), 2);
        tell(0, TWO);
        x.craft(0);
        x.ropes(7);
        due("upper() by another craft", x.upper(), 1);
    }

    private static void nth() {
        begin(28, TWO);
        due("nth(4, 0, 2)", x.nth(4, 0, 2), 4);
        dueRow(2, 0, 0, 0, 0);
        due("nth(4, 5, 2)", x.nth(4, 5, 2), 6);
        dueRow(2, 0, 1, 0, 1);
        due("nth(4, 14, 2)", x.nth(4, 14, 2), 7);
        dueRow(2, 1, 1, 1, 0);
        dueFinding("nth(4, 15, 2)", x.nth(4, 15, 2), NOUGHT);
        dueRow(2, 1, 1, 1, 0);
        due("nth(0, 0, 2)", x.nth(0, 0, 2), 0);
        dueRow(2);
        dueFinding("nth(0, 1, 2)", x.nth(0, 1, 2), NOUGHT);
        dueFinding("nth(8, 0, 2)", x.nth(8, 0, 2), NOUGHT);
        due("nth(21, 0, 2)", x.nth(21, 0, 2), BAD);
        due("nth(-1, 0, 2)", x.nth(-1, 0, 2), BAD);
        due("nth(8, -1, 2)", x.nth(8, -1, 2), BAD);
        due("nth(8, 0, 6)", x.nth(8, 0, 6), BAD);
        due("nth(8, 0, -1)", x.nth(8, 0, -1), BAD);
        begin(28, "r4000h11k12x00");
        due("nth(2, 0, 0): the HITCH is the last one", x.nth(2, 0, 0), 3);
        dueRow(0, 0, 1);
        due("nth(2, 1, 0)", x.nth(2, 1, 0), 1 + 3);
        dueRow(0, 1, 0);
        begin(28, "r9900k11k11k11k11k11k11");
        due("nth(20, most, 0)", x.nth(20, Integer.MAX_VALUE, 0), 20);
        long i = Integer.MAX_VALUE;
        int[] rope = new int[20];
        for (int p = 19; p >= 0; p--) {
            rope[p] = (int) (i % 6);
            i /= 6;
        }
        dueRow(0, rope);
    }

    // ---- 4 messages

    private static void dueMessageRefusals(String name, OfKnots calls) {
        begin(promise, ALL);
        due(name + "(6)", calls.call(6), BAD);
        due(name + "(-1)", calls.call(-1), BAD);
        dueFinding(name + " of a missing row", calls.call(3), NOTHING);
        x.row(3, 13);
        x.lay(3, 0, 10);
        dueFinding(name + " of too many", calls.call(3), SIZE);
        x.row(3, 12);
        x.lay(3, 11, 10);
        dueFinding(name + " of no sign", calls.call(3), UNLIKE);
        x.lay(3, 11, -1);
        dueFinding(name + " of no sign", calls.call(3), UNLIKE);
        due("count(6)", x.count(6), 1);
        x.lay(3, 11, 9);
        int got = calls.call(3);
        due(name + " of enough", got == NONE || got == 1 ? 1 : 0, 1);
        due("count(6)", x.count(6), 1);
    }

    private static void shortest() {
        promise = 29;
        dueMessageRefusals("shortest", r -> x.shortest(r, 2));
        begin(29, TWO);
        row(2, 0, 1, 0);
        due("shortest(2, 6)", x.shortest(2, 6), BAD);
        due("shortest(2, -1)", x.shortest(2, -1), BAD);
        due("shortest(2, 3)", x.shortest(2, 3), 4);
        dueRow(3, 0, 1, 0);
        row(2, 2, 1);
        due("shortest(2, 2)", x.shortest(2, 2), 4);
        dueRow(2, 0, 0, 1);
        row(2, 0, 0);
        due("shortest(2, 3): two 0s are a pair", x.shortest(2, 3), NONE);
        dueRow(3, 0, 1, 0);
        row(2, 3, 3);
        due("shortest(2, 3): too long", x.shortest(2, 3), NONE);
        x.row(2, 0);
        due("shortest(2, 3)", x.shortest(2, 3), 0);
        dueRow(3);
        begin(29, "r9900k21k11k11y115");
        row(0, 1, 1);
        due("shortest(0, 1): takes least, then the first", x.shortest(0, 1), 2);
        dueRow(1, 1, 2);
        begin(29, "r9900b11b12y011");
        row(0, 1);
        due("shortest(0, 1): the beginning of another one comes first", x.shortest(0, 1), 1);
        dueRow(1, 0);
        begin(29, "r9900b12b11y011");
        row(0, 1);
        due("shortest(0, 1): by the first knots, not by how many", x.shortest(0, 1), 1);
        dueRow(1, 0, 1);
        begin(29, "r9900h11k31");
        row(0, 1);
        due("shortest(0, 1): 1 more for the last one", x.shortest(0, 1), 3);
        dueRow(1, 0);
        row(0, 1, 1);
        due("shortest(0, 1)", x.shortest(0, 1), 5);
        dueRow(1, 0, 0);
        begin(29, "r9900b10b10y007");
        row(0, 7, 7, 7, 7, 7, 7, 7, 7, 7, 7);
        due("shortest(0, 1): twenty knots", x.shortest(0, 1), 1);
        row(0, 7, 7, 7, 7, 7, 7, 7, 7, 7, 7, 7);
        due("shortest(0, 1): twenty-two would be needed", x.shortest(0, 1), NONE);
        row(0, 7, 7, 7, 7, 7, 7, 7, 7, 0, 0, 0, 0);
        due("shortest(0, 1): eight pairs and four are twenty", x.shortest(0, 1), 1);
        row(0, 7, 7, 7, 7, 7, 7, 7, 7, 7, 0, 0, 0);
        due("shortest(0, 1): nine pairs and three are too many", x.shortest(0, 1), NONE);
    }

    private static void ways() {
        promise = 30;
        dueMessageRefusals("ways", r -> x.ways(r));
        begin(30, "r9900k11k11k12");
        row(0, 1, 2, 1);
        due("ways(0)", x.ways(0), 1);
        due("upper()", x.upper(), 4);
        x.row(0, 0);
        due("ways(0)", x.ways(0), 1);
        due("upper()", x.upper(), 1);
        row(0, 3);
        due("ways(0)", x.ways(0), 1);
        due("upper()", x.upper(), 0);
        begin(30, "r0300k11k11k21y115");
        row(0, 1, 1);
        due("ways(0)", x.ways(0), 1);
        due("upper(): 00, 01, 02, 10, 12, 20, 21", x.upper(), 7);
        due("ways(6)", x.ways(6), BAD);
        due("upper()", x.upper(), 7);
        begin(30, "r9900k11k11k11k11k11k11");
        row(0, 1, 1, 1, 1, 1, 1, 1, 1, 1, 1, 1, 1);
        due("ways(0)", x.ways(0), 1);
        due("upper()", x.upper(), 2176782336L);
        begin(30, "r9900b10b17y007");
        row(0, 7, 7, 7, 7, 7, 7, 7, 7, 7, 7, 7, 7);
        due("ways(0)", x.ways(0), 1);
        due("upper(): eight pairs at most", x.upper(), 4096 - 1 - 12 - 66 - 220);
    }

    private static void signs() {
        promise = 31;
        dueMessageRefusals("signs", r -> x.signs(r, 2));
        begin(31, "r9900k91k12k23");
        row(0, 1, 1, 3);
        due("signs(0, 6)", x.signs(0, 6), BAD);
        due("signs(0, -1)", x.signs(0, -1), BAD);
        due("signs(0, 1)", x.signs(0, 1), 4);
        dueRow(1, 1, 0, 2);
        due("knot(0, 2): nothing is changed", x.knot(0, 2), 1);
        due("asked()", x.asked(), 1);
        due("signs(0, 0)", x.signs(0, 0), 4);
        dueRow(0, 1, 0, 2);
        row(0, 4);
        due("signs(0, 1)", x.signs(0, 1), NONE);
        dueRow(1, 1, 0, 2);
        row(0, 3);
        due("signs(0, 1): of alike ones the first", x.signs(0, 1), 1);
        dueRow(1, 0, 2, 1);
        x.row(0, 0);
        due("signs(0, 1)", x.signs(0, 1), 0);
        dueRow(1, 0, 1, 2);
        begin(31, "r9900k51k12y115");
        row(0, 5);
        due("signs(0, 1): pairs stay", x.signs(0, 1), 2);
        dueRow(1, 0, 1);
        begin(31, "r0600k61k12k11");
        row(0, 2, 1, 1);
        due("signs(0, 1): as it is", x.signs(0, 1), 3);
        dueRow(1, 0, 1, 2);
        begin(31, "r0300k91k12");
        row(0, 2, 2);
        due("signs(0, 1)", x.signs(0, 1), 2);
        row(0, 1, 1);
        due("signs(0, 1)", x.signs(0, 1), 2);
        row(0, 2, 1);
        due("signs(0, 1)", x.signs(0, 1), NONE);
    }

    private static void change() {
        promise = 32;
        dueMessageRefusals("change", r -> x.change(r, 2));
        begin(32, TWO);
        tieAll(0, 0, 1);
        row(0, 2, 1, 0);
        due("change(0, 6)", x.change(0, 6), BAD);
        due("change(0, -1)", x.change(0, -1), BAD);
        due("change(0, 1): one is tied", x.change(0, 1), 0);
        dueRow(1, 0, 0, 1, 0);
        row(0, 2, 1);
        due("change(0, 1): as it is", x.change(0, 1), 0);
        dueRow(1, 0, 0, 1);
        row(0, 2, 0);
        due("change(0, 1)", x.change(0, 1), 1);
        dueRow(1, 0, 0, 0);
        row(0, 0, 1);
        due("change(0, 0)", x.change(0, 0), 2);
        dueRow(0, 0, 1);
        row(0, 1);
        due("change(0, 1)", x.change(0, 1), 3);
        dueRow(1, 1);
        row(0, 9);
        due("change(0, 1)", x.change(0, 1), NONE);
        dueRow(1, 1);
        due("the rope stays: count(1)", x.count(1), 3);
        x.row(0, 0);
        due("change(0, 1)", x.change(0, 1), 3);
        dueRow(1);
        row(0, 2, 1);
        x.length(8);
        due("change(0, 1): too long by now", x.change(0, 1), NONE);
        begin(32, "r9900k11w12k33k43");
        tieAll(0, 1, 0);
        row(0, 1, 3);
        due("change(0, 1): a WILL stays", x.change(0, 1), NONE);
        row(0, 1, 2, 3);
        due("change(0, 1): takes least", x.change(0, 1), 1);
        dueRow(1, 0, 1, 2);
        row(0, 1, 2);
        due("change(0, 1)", x.change(0, 1), 1);
        dueRow(1, 0, 1);
        begin(32, "r9900k51k11k12");
        tieAll(0, 2);
        row(0, 1, 1);
        due("change(0, 1): fewest first, not least", x.change(0, 1), 1);
        dueRow(1, 0, 1);
    }

    private static void both() {
        promise = 33;
        dueMessageRefusals("both", r -> x.both(r, r, 2));
        begin(33, TWO);
        row(0, 2, 0);
        row(1, 2, 0);
        due("both(0, 1, 6)", x.both(0, 1, 6), BAD);
        due("both(0, 6, 1)", x.both(0, 6, 1), BAD);
        due("both(-1, 0, 1)", x.both(-1, 0, 1), BAD);
        due("both(0, 1, 2): three of one kind", x.both(0, 1, 2), 3);
        dueRow(2, 0, 0, 0);
        row(1, 0, 2);
        due("both(0, 1, 2)", x.both(0, 1, 2), NONE);
        dueRow(2, 0, 0, 0);
        row(0, 2, 1);
        row(1, 1, 2);
        due("both(0, 1, 0)", x.both(0, 1, 0), 4);
        dueRow(0, 0, 0, 1);
        dueFinding("both(0, 5, 1)", x.both(0, 5, 1), NOTHING);
        x.row(3, 13);
        x.row(4, 1);
        x.lay(4, 0, 10);
        dueFinding("both(3, 5, 1)", x.both(3, 5, 1), NOTHING);
        dueFinding("both(5, 3, 1)", x.both(5, 3, 1), NOTHING);
        dueFinding("both(4, 3, 1)", x.both(4, 3, 1), SIZE);
        dueFinding("both(3, 4, 1)", x.both(3, 4, 1), SIZE);
        dueFinding("both(4, 0, 1)", x.both(4, 0, 1), UNLIKE);
        dueFinding("both(0, 4, 1)", x.both(0, 4, 1), UNLIKE);
        due("both(4, 3, 6)", x.both(4, 3, 6), BAD);
        begin(33, "r9900k11k12");
        row(0, 1, 1, 1, 1, 2);
        row(1, 2, 1, 1, 1, 1);
        due("both(0, 1, 2): five knots", x.both(0, 1, 2), 5);
        row(0, 1, 1, 1, 1, 1, 1);
        due("both(0, 0, 2): six knots", x.both(0, 0, 2), NONE);
        x.row(0, 0);
        due("both(0, 0, 2)", x.both(0, 0, 2), 0);
        dueRow(2);
        begin(33, "r9900k11k12y013");
        row(0, 3);
        row(1, 2, 1);
        due("both(0, 1, 2): a pair one way alone", x.both(0, 1, 2), 2);
        dueRow(2, 0, 1);
        begin(33, "r9900k51k11k11");
        row(0, 1, 1);
        due("both(0, 0, 2): the first of alike ones that take least", x.both(0, 0, 2), 2);
        dueRow(2, 1, 1);
        begin(33, "r0300k21k11x11");
        due("no room", x.row(0, 2), 2);
        row(0, 1, 1);
        due("both(0, 0, 2): laws, too", x.both(0, 0, 2), 3);
        dueRow(2, 0, 1);
        x.length(2);
        due("both(0, 0, 2)", x.both(0, 0, 2), NONE);
    }

    // ---- 5 slips, moths, several ropes

    private static void slips() {
        promise = 34;
        dueKnotRefusals("slips", 20, r -> x.slips(r));
        begin(34, ALL);
        x.row(0, 0);
        x.knot(3, 3);
        dueAsked("slips(0)", x.slips(0), 0, 0);
        row(0, 0);
        dueAsked("slips(0)", x.slips(0), 1, 0);
        row(0, 0, 1, 2, 2, 4, 5);
        dueAsked("slips(0): a WILL, too", x.slips(0), 5, 0);
        begin(34, "r9900k11k11y001");
        row(0, 0, 0);
        dueAsked("slips(0): it still reads so", x.slips(0), 1, 3);
        row(0, 0, 0, 1);
        dueAsked("slips(0)", x.slips(0), 2, 3);
        begin(34, "r9900k11k12");
        row(0, 0, 1, 0, 1, 0, 1, 0, 1, 0, 1, 0, 1, 0, 1, 0, 1, 0, 1, 0, 1);
        dueAsked("slips(0): twenty unlike ones", x.slips(0), 20, 0);
        begin(34, "r0500k91");
        row(0, 0, 0);
        dueAsked("slips(0): right or not", x.slips(0), 1, 0);
    }

    private static void apart() {
        promise = 35;
        dueKnotRefusals("apart", 20, r -> x.apart(r, r));
        begin(35, "r9900k11k12k13");
        row(0, 0, 1);
        row(1, 2, 0);
        due("apart(0, 1): 1 is left of both", x.apart(0, 1), 0);
        row(1, 2, 2);
        due("apart(0, 1)", x.apart(0, 1), 1);
        row(1, 2, 0, 1);
        due("apart(0, 1): one slipped of one", x.apart(0, 1), 0);
        row(1, 2, 0, 1, 2);
        due("apart(0, 1)", x.apart(0, 1), 1);
        x.row(1, 0);
        due("apart(0, 1)", x.apart(0, 1), 1);
        row(0, 1);
        due("apart(0, 1)", x.apart(0, 1), 0);
        due("apart(1, 1)", x.apart(1, 1), 0);
        due("apart(0, 6)", x.apart(0, 6), BAD);
        dueFinding("apart(0, 5)", x.apart(0, 5), NOTHING);
        x.row(2, 21);
        row(3, 3);
        dueFinding("apart(2, 5)", x.apart(2, 5), NOTHING);
        dueFinding("apart(3, 2)", x.apart(3, 2), SIZE);
        dueFinding("apart(2, 3)", x.apart(2, 3), SIZE);
        dueFinding("apart(0, 3)", x.apart(0, 3), UNLIKE);
        dueFinding("apart(3, 0)", x.apart(3, 0), UNLIKE);
        begin(35, "r9900k11k12k13");
        row(0, 0, 1, 0, 1, 0, 1, 0, 1, 0, 1, 0, 1, 0, 1, 0, 1, 0, 1, 0, 1);
        row(1, 2, 0, 1, 0, 1, 0, 1, 0, 1, 0, 1, 0, 1, 0, 1, 0, 1, 0, 1, 0);
        due("apart(0, 1): the last one slipped, and the first one", x.apart(0, 1), 0);
        due("apart(1, 0)", x.apart(1, 0), 0);
        begin(35, "r9900k11k12k14y014");
        row(0, 2);
        row(1, 0, 1, 1);
        due("apart(0, 1): by what they read, not by knots", x.apart(0, 1), 0);
    }

    private static void lent() {
        promise = 36;
        dueKnotRefusals("lent", 19, r -> x.lent(r));
        begin(36, "r9900k11k12w13");
        row(0, 0, 0, 1);
        dueAsked("lent(0): 0001, 0010, 0011, 0101, 1001", x.lent(0), 5, 6);
        row(0, 2);
        dueAsked("lent(0): 02, 20, 12, 21", x.lent(0), 4, 8);
        x.row(0, 0);
        dueAsked("lent(0): 0, 1", x.lent(0), 2, 0);
        x.length(1);
        row(0, 0);
        dueAsked("lent(0): none is right", x.lent(0), 0, 0);
        begin(36, "r9900k11k12x00x01");
        row(0, 0, 0);
        dueAsked("lent(0)", x.lent(0), 0, 0);
        row(0, 1, 0);
        dueAsked("lent(0): 110", x.lent(0), 1, 6);
        row(0, 0, 0, 0);
        dueAsked("lent(0): what lies need not be right", x.lent(0), 0, 0);
    }

    private static void moths() {
        promise = 37;
        dueKnotRefusals("moths", 20, r -> x.moths(r, 0, 1));
        begin(37, ALL);
        row(0, 2, 0, 3, 4);
        due("moths(0, 0, 6)", x.moths(0, 0, 6), BAD);
        due("moths(0, 9, -1)", x.moths(0, 9, -1), BAD);
        due("moths(0, 3, 1)", x.moths(0, 3, 1), 1 + 1 + 2 + 7);
        dueRow(1, 4, 2, 0, 3);
        due("moths(0, 0, 1)", x.moths(0, 0, 1), 2 + 2 + 6 + 1);
        dueRow(1, 2, 0, 3, 4);
        due("moths(0, 4, 1)", x.moths(0, 4, 1), 11);
        dueRow(1, 2, 0, 3, 4);
        dueFinding("moths(0, 5, 1)", x.moths(0, 5, 1), BEYOND);
        dueFinding("moths(0, -1, 1)", x.moths(0, -1, 1), BEYOND);
        due("moths(0, 1, 0)", x.moths(0, 1, 0), 2 + 6 + 1 + 1);
        dueRow(0, 0, 3, 4, 2);
        x.lay(0, 0, 6);
        dueFinding("moths(0, 5, 1)", x.moths(0, 5, 1), UNLIKE);
    }

    private static void cuts() {
        promise = 38;
        dueKnotRefusals("cuts", 20, r -> x.cuts(r));
        begin(38, "r9900k11k11k11x20x01");
        row(0, 0, 1, 2);
        dueAsked("cuts(0)", x.cuts(0), 0, NONE);
        row(0, 0, 2, 1);
        dueAsked("cuts(0): 210 and 102", x.cuts(0), 2, 1);
        row(0, 2, 0, 1);
        dueAsked("cuts(0): 012, 120", x.cuts(0), 0, NONE);
        row(0, 1, 2, 0, 2);
        dueAsked("cuts(0): 2021, 0212, 2120", x.cuts(0), 1, 2);
        row(0, 1);
        dueAsked("cuts(0)", x.cuts(0), 0, NONE);
        x.row(0, 0);
        dueAsked("cuts(0)", x.cuts(0), 0, NONE);
    }

    private static void packs() {
        begin(39, "r1505k11");
        due("packs(6)", x.packs(6), BAD);
        due("packs(-1)", x.packs(-1), BAD);
        dueFinding("packs(0)", x.packs(0), NOTHING);
        x.row(0, 7);
        x.lay(0, 0, -1);
        dueFinding("packs(0)", x.packs(0), SIZE);
        row(0, 11, 100);
        dueFinding("packs(0)", x.packs(0), UNLIKE);
        row(0, 11, -1);
        dueFinding("packs(0)", x.packs(0), UNLIKE);
        row(0, 5, 5, 5);
        dueAsked("packs(0)", x.packs(0), 2, 1);
        row(0, 5, 11);
        x.at(0, 1);
        dueAsked("packs(0)", x.packs(0), NONE, 11);
        row(0, 99);
        due("packs(0)", x.packs(0), NONE);
        x.row(0, 0);
        dueAsked("packs(0)", x.packs(0), 0, 0);
        row(0, 0);
        dueAsked("packs(0)", x.packs(0), 1, 1);
        row(0, 6, 6, 4, 4);
        dueAsked("packs(0)", x.packs(0), 2, 5);
        row(0, 3, 3, 3, 7, 7, 7);
        dueAsked("packs(0)", x.packs(0), 3, 9);
        row(0, 10, 10, 10, 10, 10, 10);
        dueAsked("packs(0)", x.packs(0), 6, 1);
        row(0, 1, 2, 3, 4);
        dueAsked("packs(0)", x.packs(0), 1, 15);
        row(0, 2, 9, 8, 1);
        dueAsked("packs(0)", x.packs(0), 2, 5);
    }

    // ---- 6 lots

    private static void lots() {
        begin(40, "r9900k11k12k13x00");
        int[] due = new int[6];
        long number = 77;
        int last = -1;
        for (int i = 0; i < due.length; i++) {
            number = number * 48271 % 2147483647;
            due[i] = last == 0 ? 1 + (int) (number % 2) : (int) (number % 3);
            last = due[i];
        }
        due("lots(6, 77, 1)", x.lots(6, 77, 1), 6);
        dueRow(1, due);
        due("lots(0, 77, 1)", x.lots(0, 77, 1), 0);
        dueRow(1);
        due("lots(20, 2147483646, 1)", x.lots(20, 2147483646, 1), 20);
        due("lots(20, 1, 1)", x.lots(20, 1, 1), 20);
        due("lots(21, 1, 1)", x.lots(21, 1, 1), BAD);
        due("lots(-1, 1, 1)", x.lots(-1, 1, 1), BAD);
        due("lots(1, 0, 1)", x.lots(1, 0, 1), BAD);
        due("lots(1, 2147483647, 1)", x.lots(1, 2147483647, 1), BAD);
        due("lots(1, -5, 1)", x.lots(1, -5, 1), BAD);
        due("lots(1, 1, 6)", x.lots(1, 1, 6), BAD);
        due("lots(1, 1, -1)", x.lots(1, 1, -1), BAD);
        tieAll(1);
        due("lots(2, 5, 1): from nothing on", x.lots(2, 5, 1), 2);
        due("count(1)", x.count(1), 1);
        begin(40, "r0500k21h21");
        due("lots(20, 9, 1): it ends where none is", x.lots(20, 9, 1) < 3 ? 1 : 0, 1);
        begin(40, "r0400k21h21");
        due("lots(20, 9, 1): the last HITCH", x.lots(20, 9, 1), 2);
        dueRow(1, 0, 0);
    }

    // ---- 7 what is told

    private static void asked() {
        begin(41, "");
        due("asked()", x.asked(), 0);
        begin(41, ALL);
        row(0, 7, 3);
        dueAsked("at(0, 0)", x.at(0, 0), 1, 7);
        dueAsked("mean(0)", x.mean(0), 1, 5);
        dueAsked("lay(0, 1, 4)", x.lay(0, 1, 4), 1, 3);
        dueAsked("knot(3, 3)", x.knot(3, 3), 1, 6);
        dueAsked("at(0, 9)", x.at(0, 9), FINDING, 6);
        dueAsked("tie(1)", x.tie(1), 38, 6);
        dueAsked("reads(1)", x.reads(1), 1, 6);
        dueAsked("ropes(1)", x.ropes(1), 1, 6);
        dueAsked("takes(1)", x.takes(1), 2, 6);
        dueAsked("left()", x.left(), 1, 38);
        x.digest();
        due("asked()", x.asked(), 38);
        row(0, 31);
        x.left();
        dueAsked("packs(0)", x.packs(0), NONE, 38);
        row(0, 0, 1, 3);
        dueAsked("judge(0)", x.judge(0), 2, 1);
        dueAsked("cuts(0)", x.cuts(0), 1, 2);
        dueAsked("slips(0)", x.slips(0), 3, 0);
        dueAsked("cuts(5)", x.cuts(5), FINDING, 0);
        row(0, 0);
        dueAsked("cuts(0)", x.cuts(0), 0, NONE);
    }

    private static void upper() {
        begin(42, ALL);
        due("upper()", x.upper(), 0);
        x.ropes(2);
        due("upper()", x.upper(), 34);
        row(0, 4, 1, 3);
        x.ways(0);
        due("upper()", x.upper(), 3);
        x.upTo(5);
        x.ropes(21);
        x.ways(5);
        due("upper()", x.upper(), 3);
    }

    private static void upTo() {
        begin(43, TWO);
        long[] due = {1, 3, 7, 15, 30, 46, 53, 54, 54};
        for (int n = 0; n < due.length; n++) {
            due("upTo(" + n + ")", x.upTo(n), due[n]);
        }
        due("upTo(20)", x.upTo(20), 54);
        due("upTo(21)", x.upTo(21), 0);
        due("upTo(-1)", x.upTo(-1), 0);
        begin(43, "r9900b11b11b11b11b11b11");
        due("upTo(20)", x.upTo(20), 4387390128075571L);
    }

    private static void count() {
        begin(44, ALL);
        tieAll(3, 1, 2, 5);
        x.row(1, 0);
        x.row(2, 3);
        x.row(3, 3);
        x.tear(2);
        x.text(3, 0);
        x.keep(0);
        x.keep(2);
        x.keep(2);
        int[] due = {6, 4, 2, 2, 2, 4, 2, 2, 2};
        for (int what = 0; what < due.length; what++) {
            due("count(" + what + ")", x.count(what), due[what]);
        }
        due("count(9)", x.count(9), BAD);
        due("count(-1)", x.count(-1), BAD);
        begin(44, "r9900o11o11o11b11s11b11x00x00y000y000y000");
        int[] other = {6, 0, 3, 3, 2, 3};
        for (int what = 0; what < other.length; what++) {
            due("count(" + what + ")", x.count(what), other[what]);
        }
    }

    private static void finding() {
        begin(45, ALL);
        due("finding()", x.finding(), 0);
        x.row(7, 0);
        due("finding()", x.finding(), 0);
        x.tear(0);
        x.rope(4);
        x.mark(0, 1);
        x.nth(1, 6, 0);
        x.row(0, -1);
        due("finding()", x.finding(), SIZE);
        x.rope(0);
        due("finding()", x.finding(), BEYOND);
        x.rope(-1);
        x.row(0, 2);
        due("finding()", x.finding(), BEYOND);
        promise = 46;
        int[] due = {BAD, 1, 2, 1, 1, 1, BAD};
        for (int f = 0; f < due.length; f++) {
            due("findings(" + f + ")", x.findings(f), due[f]);
        }
        due("findings(-1)", x.findings(-1), BAD);
    }

    private static void digest() {
        begin(47, "r2003o12s34x01y109y005");
        tieAll(0, 0);
        x.keep(1);
        x.tie(1);
        row(1, -4, 7);
        x.text(3, 2);
        x.put(3, 1, 200);
        String told = "r2003o12s34x01y109y005";
        due("tie(1) was against a law: count(1)", x.count(1), 2);
        long[] ahead = {2, 2, 1, 1, 1, 2, 1, 2, 1, 20, 3, 1, 1, 2, 2, 2, 4, 3, 4, 3, 0, 1, 0, 9, 0, 0, 5, 0, 0,
            -1, 2, -1, -1, 2, -4, 7, -1, -1, -1, -1, told.length()};
        long h = 17;
        for (long v : ahead) {
            h = 31 * h + v;
        }
        for (int i = 0; i < told.length(); i++) {
            h = 31 * h + told.charAt(i);
        }
        for (long v : new long[] {-1, -1, 2, 32, -56}) {
            h = 31 * h + v;
        }
        x.left();
        int asked = x.asked();
        due("digest()", x.digest(), h);
        due("asked()", x.asked(), asked);
        x.sign(0, 3);
        due("another sign is another digest", x.digest() == h ? 1 : 0, 0);
    }
}

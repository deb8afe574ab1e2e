/** What the Terms say of a CRAFT's TEXT and its FAULTS, and promises 10 to 15. */
final class CraftSentences extends SentenceBench {
    private static final String SIX = "k11k11k11k11k11k11";
    private static final String KNOT_LETTERS = "kobhsw";
    /** One item of each sort; each of its places has a rule of its own in dueWith(). */
    private static final String EACH_SORT = "r9912k34x00y005";

    @Override
    void tryAll() {
        blanks();
        items();
        lawsAndPairs();
        everyByte();
        faults();
        tooEarly();
        fault();
        craft();
        craftRefused();
        knot();
        mark();
        markRefused();
        length();
        sign();
    }

    private void dueFault(String text, int want) {
        anew();
        tell(0, text);
        changesNothing("fault(0)", want);
        long got = call("craft(0)");
        same("craft(0) of '" + text + "' is refused by STATE", got == STATE ? 1 : 0, want == NONE ? 0 : 1);
    }

    private void dueKnots(String text, int knots) {
        anew();
        tell(0, text);
        due("fault(0)", NONE);
        due("craft(0)", knots);
        due("count(0)", knots);
    }

    private void blanks() {
        sentence(TERMS, "A CRAFT (without KNOTS at first) is a TEXT: blanks (32) ahead, between, behind as many as wanted, "
            + "none within items.");
        due("count(0)", 0);
        dueKnots("r1000", 0);
        dueKnots("   r1000   ", 0);
        dueKnots("r1000k11x00y005", 1);
        dueKnots(" r1000 k11 x00 y005 ", 1);
        dueKnots("          r1000          k11          x00          y005          k".substring(0, 64), 1);
        dueFault("r 1000", 1);
        dueFault("r1 000", 2);
        dueFault("r10 00", 3);
        dueFault("r100 0", 4);
        dueFault("r1000k 11", 6);
        dueFault("r1000k1 1", 7);
        dueFault("r1000k11x 00", 9);
        dueFault("r1000k11x0 0", 10);
        dueFault("r1000k11y 000", 9);
        dueFault("r1000k11y0 00", 10);
        dueFault("r1000k11y00 0", 11);
        dueFault("\tr1000", 0);
        dueFault("r1000\n", 5);
        dueFault("r1000" + (char) 0, 5);
    }

    private void items() {
        sentence(TERMS, "The first item is r (114), the LENGTH (two figures), the GIRTH (two figures; not above the LENGTH).");
        dueFault("", 0);
        dueFault("k11", 0);
        dueFault("s1000", 0);
        dueFault("q1000", 0);
        dueFault("R1000", 0);
        String[] lengths = {"r0000", "r0100", "r0909", "r1000", "r9900", "r9999", "r4010"};
        for (String text : lengths) {
            anew(text);
            told("left()", 0, Integer.parseInt(text.substring(1, 3)));
        }
        anew("r4010k11");
        due("length(10)", 40);
        refused("length(9)", STATE);
        dueFault("r1011", 3);

        sentence(TERMS, "Then KNOTS (none, or 6 at most; 0, 1, .. as they come): a letter, the SIZE (1 .. 9), the SIGN (0 .. 9), "
            + "one figure each: k (107) KNOT, o (111) LOOP, b (98) BEND, h (104) HITCH, s (115) SHEEP, w (119) WILL.");
        dueKnots("r9900", 0);
        dueKnots("r9900k11", 1);
        dueKnots("r9900" + SIX, 6);
        anew("r9900 k10 o29 b31 h48 s52 w97");
        int[][] due = {{0, 1, 0}, {1, 2, 9}, {2, 3, 1}, {3, 4, 8}, {4, 5, 2}, {5, 9, 7}};
        for (int k = 0; k < 6; k++) {
            for (int what = 0; what < 3; what++) {
                told("knot(" + k + ", " + what + ")", 1, due[k][what]);
            }
        }
        dueFault("r9900k01", 6);
        for (int i = 0; i < 6; i++) {
            anew("r9900" + KNOT_LETTERS.charAt(i) + "11");
            told("knot(0, 0)", 1, i);
        }
    }

    private void lawsAndPairs() {
        sentence(TERMS, "Then LAWS (none, or 6 at most): x (120), two KNOTS (one figure each): the second one may not stand "
            + "just behind the first (perhaps the same).");
        dueKnots("r9900k11x00x00x00x00x00x00", 1);
        due("count(4)", 6);
        dueKnots("r9900" + SIX + "x05x50x55", 6);
        due("count(4)", 3);
        told("knot(0, 4)", 1, 32);
        told("knot(5, 4)", 1, 33);
        told("knot(4, 4)", 1, 0);
        tie(0);
        refused("tie(5)", STATE);
        due("tie(4)", 97);
        due("tie(5)", 96);
        refused("tie(5)", STATE);
        refused("tie(0)", STATE);
        due("tie(1)", 95);
        due("tie(1)", 94);

        sentence(TERMS, "Then PAIRS (none, or 6 at most): y (121), two KNOTS, a SIGN (one figure each).");
        dueKnots("r9900k11y000y000y000y000y000y009", 1);
        due("count(5)", 6);
        dueKnots("r9900" + SIX + "y059y500y557", 6);
        due("count(5)", 3);
        row(0, 0, 5);
        due("says(0, 1)", 1);
        dueRow(1, 9);
        row(0, 5, 0);
        due("says(0, 1)", 1);
        dueRow(1, 0);
        row(0, 5, 5, 4);
        due("says(0, 1)", 2);
        dueRow(1, 7, 1);
    }

    private static boolean isFigure(int v) {
        return v >= '0' && v <= '9';
    }

    private static boolean isKnotLetter(int v) {
        return v > 0 && KNOT_LETTERS.indexOf(v) >= 0;
    }

    /** The FAULT that is due if place p of EACH_SORT is another byte. */
    private static int dueWith(int p, int v) {
        switch (p) {
            case 0: return v == 'r' ? NONE : v == ' ' ? 1 : 0;
            case 1: return !isFigure(v) ? 1 : v == '0' ? 3 : NONE;
            case 2: case 3: case 4: case 7: case 14: return isFigure(v) ? NONE : p;
            case 5: return isKnotLetter(v) ? NONE : v == ' ' || v == 'x' || v == 'y' ? 6 : 5;
            case 6: return isFigure(v) && v != '0' ? NONE : 6;
            case 8: return v == 'x' ? NONE : v == 'y' ? 11 : v == ' ' || isKnotLetter(v) ? 9 : 8;
            case 11: return v == 'y' ? NONE : v == 'x' ? 14 : v == ' ' ? 12 : 11;
            default: return v == '0' ? NONE : p;
        }
    }

    private void everyByte() {
        sentence(TERMS, "A FAULT is the first place at which it can't go on so (a letter, a figure that is none such,");
        for (int p = 0; p < EACH_SORT.length(); p++) {
            for (int v = -128; v <= 127; v++) {
                if (v % 128 == 0) {
                    anew();
                    tell(0, EACH_SORT);
                    due("fault(0)", NONE);
                }
                call("put(0, " + p + ", " + v + ")");
                same("place " + p + " is " + v + ": fault(0)", call("fault(0)"), dueWith(p, v));
            }
        }
    }

    private void faults() {
        sentence(TERMS, "a seventh one of a sort,");
        dueFault("r9900" + SIX + "k11", 23);
        dueFault("r9900k11o11b11h11s11w11" + "  w", 25);
        dueFault("r9900" + SIX + "k", 23);
        dueFault("r9900k11x00x00x00x00x00x00x00", 26);
        dueFault("r9900k11x00x00x00x00x00x00 x", 27);
        dueFault("r9900k11y000y000y000y000y000y000y000", 32);
        dueFault("r9900k11y000y000y000y000y000y000 y", 33);

        sentence(TERMS, "a sort ahead of its turn or behind it: its place;");
        dueFault("k11r1000", 0);
        dueFault(" x00", 1);
        dueFault("y000", 0);
        dueFault("r1000r1000", 5);
        dueFault("r1000k11 r1000", 9);
        dueFault("r1000k11x00r", 11);
        dueFault("r1000k11x00k11", 11);
        dueFault("r1000k11x00 w11", 12);
        dueFault("r1000k11y000k11", 12);
        dueFault("r1000k11y000x00", 12);
        dueFault("r1000k11x00y000x00", 15);
        dueFault("r1000k11x00y000 s", 16);
        dueFault("r1000k11x00y000r1000", 15);

        sentence(TERMS, "a KNOT in a LAW, a PAIR that there is not: its place;");
        dueFault("r1000x00", 6);
        dueFault("r1000y000", 6);
        dueFault("r1000k11x10", 9);
        dueFault("r1000k11x01", 10);
        dueFault("r1000k11k11x12", 13);
        dueFault("r1000k11k11x21", 12);
        dueFault("r1000k11k11x11", NONE);
        dueFault("r1000k11y100", 9);
        dueFault("r1000k11y010", 10);
        dueFault("r1000k11k11y119", NONE);
        dueFault("r1000k11k11y129", 13);
        dueFault("r9900" + SIX + "x65", 24);
        dueFault("r9900" + SIX + "x56", 25);
        dueFault("r9900" + SIX + "y655", 24);
        dueFault("r9900" + SIX + "y565", 25);
        dueFault("r9900" + SIX + "x55y559", NONE);

        sentence(TERMS, "a GIRTH above the LENGTH: its first figure;");
        dueFault("r1010", NONE);
        dueFault("r1009", NONE);
        dueFault("r1011", 3);
        dueFault("r0001", 3);
        dueFault("r9899", 3);
        dueFault("  r1020", 5);
        dueFault("r1011z", 3);
        dueFault("r1099k11", 3);
    }

    private void tooEarly() {
        sentence(TERMS, "the TEXT's size, if its end comes too early, or there are blanks alone).");
        String text = "r9912 k34o10 x01 x10 y015 y110";
        String ends = " 5 6 9 12 13 16 17 20 21 25 26 30 ";
        for (int n = 0; n <= text.length(); n++) {
            dueFault(text.substring(0, n), ends.contains(" " + n + " ") ? NONE : n);
        }
        dueFault(" ", 1);
        dueFault("  ", 2);
        dueFault(" ".repeat(80), 80);
        dueFault(" ".repeat(75) + "r0000", NONE);
        dueFault(" ".repeat(76) + "r000", 80);
        dueFault("r0000" + " ".repeat(74) + "k", 80);
    }

    private void fault() {
        sentence(10, "A FAULT of a TEXT; NONE: there is none.");
        tell(0, ALL);
        tell(3, "r1000 z");
        changesNothing("fault(0)", NONE);
        changesNothing("fault(3)", 6);
        due("count(0)", 0);

        sentence(10, "BAD; NOTHING.");
        full();
        refused("fault(-1)", BAD);
        refused("fault(4)", BAD);
        refusedBy("fault(3)", NOTHING);
        due("fault(1)", 2);
        due("fault(2)", 0);
    }

    private void craft() {
        sentence(11, "A CRAFT by a TEXT (anew; THE ROPE without KNOTS; kept ROPES go): how many KNOTS.");
        full();
        due("sign(0, 9)", 1);
        due("craft(0)", 6);
        dueRope();
        told("left()", 0, 40);
        told("knot(0, 2)", 1, 1);
        due("count(8)", 0);
        for (int k = 0; k < 3; k++) {
            refusedBy("on(" + k + ")", NOTHING);
        }
        full();
        tell(2, "r0903k17");
        due("craft(2)", 1);
        int[] counts = {1, 0, 0, 0, 0, 0, 5, 3, 0};
        for (int what = 0; what < counts.length; what++) {
            due("count(" + what + ")", counts[what]);
        }
        refused("knot(1, 0)", BAD);
        told("knot(0, 4)", 1, 0);
        due("tie(0)", 8);
        due("tie(0)", 7);
        due("reads(0)", 2);
        dueRow(0, 7, 7);
        many("ropes(6)", 1);
        many("ropes(7)", 0);
        full();
        tell(2, "r0903");
        due("craft(2)", 0);
        refused("knot(0, 0)", BAD);
        refused("keep(0)", STATE);
        told("left()", 0, 9);
        full();
        due("put(0, 7, 57)", 1050);
        told("knot(0, 1)", 1, 2);
        call("text(0, 0)");
        told("knot(0, 1)", 1, 2);
        dueRope(1, 5, 2, 0);
    }

    private void craftRefused() {
        sentence(11, "BAD; NOTHING; STATE: a FAULT.");
        full();
        refused("craft(-1)", BAD);
        refused("craft(4)", BAD);
        refusedBy("craft(3)", NOTHING);
        refused("craft(1)", STATE);
        refused("craft(2)", STATE);
        tell(1, "r9900k11k11k11x00x99");
        refused("craft(1)", STATE);
        dueRope(1, 5, 2, 0);
        due("count(8)", 2);

        // A TEXT that is missing has no FAULT, so that there never is more than one of both.
        sentence(11, "(STATE behind NOTHING.)");
        refusedBy("craft(0)", NOTHING);
        call("text(0, 0)");
        refused("craft(0)", STATE);
    }

    private void knot() {
        sentence(12, "Of a KNOT: 0 its KIND, 1 SIZE, 2 SIGN, 3 what it TAKES by itself (neither first nor last nor behind a BEND), "
            + "4 which KNOTS may not stand just behind it (bits), all told by asked(): 1.");
        full();
        int[][] due = {{0, 2, 1, 2, 1}, {1, 1, 2, 2, 8}, {2, 2, 3, 2, 0}, {3, 3, 1, 6, 0}, {4, 1, 2, 1, 0}, {5, 2, 4, 2, 0}};
        for (int k = 0; k < 6; k++) {
            for (int what = 0; what < 5; what++) {
                told("knot(" + k + ", " + what + ")", 1, due[k][what]);
            }
        }
        onlyTells("knot(3, 3)", 1);
        anew("r9900k11k11k11k11k11w99x00x01x02x04x05x05");
        told("knot(0, 4)", 1, 1 + 2 + 4 + 16 + 32);
        told("knot(5, 3)", 1, 9);
        anew("r9900h91o99");
        told("knot(0, 3)", 1, 18);
        told("knot(1, 3)", 1, 18);

        sentence(12, "BAD.");
        full();
        refused("knot(-1, 0)", BAD);
        refused("knot(6, 0)", BAD);
        refused("knot(0, -1)", BAD);
        refused("knot(0, 5)", BAD);
        refused("knot(" + LEAST + ", 0)", BAD);
        refused("knot(0, " + MOST + ")", BAD);
        anew("r9900k11k12");
        refused("knot(2, 0)", BAD);
        due("knot(1, 0)", 1);
        anew();
        refused("knot(0, 0)", BAD);
    }

    private void mark() {
        sentence(13, "What a KNOT that IS of a KIND tells: a LOOP (HITCH, too) how much more than its SIZE it TAKES by itself,");
        full();
        changesNothing("mark(1, 1)", 1);
        changesNothing("mark(3, 1)", 3);

        sentence(13, "a BEND (SHEEP, too) how much it TAKES just behind a BEND,");
        full();
        changesNothing("mark(2, 2)", 1);
        changesNothing("mark(4, 2)", 0);

        sentence(13, "a HITCH how much it TAKES as the last one,");
        full();
        changesNothing("mark(3, 3)", 7);

        sentence(13, "a SHEEP in how many PAIRS it stands (that are none),");
        full();
        changesNothing("mark(4, 4)", 1);
        anew("r3000s10s90k11y009y001y018y107y110y029");
        due("mark(0, 4)", 5);
        due("mark(1, 4)", 3);
        anew("r3000s10k11y110");
        due("mark(0, 4)", 0);

        sentence(13, "a WILL how many of it are in THE ROPE.");
        full();
        changesNothing("mark(5, 5)", 1);
        tie(5, 5);
        due("mark(5, 5)", 3);
        anew("r9900w11w12k11");
        due("mark(0, 5)", 0);
        tie(0, 1, 1, 2, 1);
        due("mark(0, 5)", 1);
        due("mark(1, 5)", 3);
        call("row(0, 1)");
        due("mark(0, 5)", 1);
    }

    private void markRefused() {
        sentence(13, "BAD: also KIND 0;");
        full();
        for (int k = -1; k <= 6; k++) {
            refused("mark(" + k + ", 0)", BAD);
        }
        refused("mark(0, -1)", BAD);
        refused("mark(0, 6)", BAD);
        refused("mark(5, 6)", BAD);
        refused("mark(-1, 1)", BAD);
        refused("mark(6, 1)", BAD);
        refused("mark(" + MOST + ", " + MOST + ")", BAD);
        anew();
        refused("mark(0, 5)", BAD);

        sentence(13, "UNLIKE.");
        full();
        // Bit 1 of a LOOP, 2 of a BEND, .. for the KINDS that each KNOT IS.
        int[] is = {0, 2, 4, 2 + 8, 4 + 16, 32};
        for (int k = 0; k < 6; k++) {
            for (int kind = 1; kind <= 5; kind++) {
                if ((is[k] >> kind & 1) == 0) {
                    refusedBy("mark(" + k + ", " + kind + ")", UNLIKE);
                }
            }
        }
    }

    private void length() {
        sentence(14, "The LENGTH is v (1 .. 99): what it was.");
        anew("r0000k11");
        due("length(1)", 0);
        due("length(99)", 1);
        due("length(2)", 99);
        told("left()", 0, 2);
        tie(0, 0);
        due("length(1)", 2);
        told("left()", 2, -1);
        dueRope(0, 0);
        due("length(99)", 1);
        told("left()", 2, 97);
        many("ropes(20)", 1);
        due("length(19)", 99);
        many("ropes(20)", 0);
        due("knot(0, 1)", 1);
        due("asked()", 1);

        sentence(14, "BAD;");
        full();
        refused("length(0)", BAD);
        refused("length(100)", BAD);
        refused("length(-1)", BAD);
        refused("length(" + MOST + ")", BAD);
        refused("length(" + LEAST + ")", BAD);
        anew();
        refused("length(0)", BAD);
        refused("length(100)", BAD);

        sentence(14, "STATE: no KNOTS, or the GIRTH is above it.");
        refused("length(1)", STATE);
        refused("length(99)", STATE);
        anew("r4010");
        refused("length(20)", STATE);
        full();
        refused("length(9)", STATE);
        refused("length(1)", STATE);
        due("length(10)", 30);
        due("length(11)", 10);
    }

    private void sign() {
        sentence(15, "A KNOT has a SIGN (0 .. 9): what it had.");
        full();
        due("sign(0, 0)", 1);
        due("sign(0, 9)", 0);
        due("sign(5, 7)", 4);
        due("sign(0, 9)", 9);
        told("knot(0, 2)", 1, 9);
        told("knot(5, 2)", 1, 7);
        told("knot(1, 2)", 1, 2);
        due("reads(0)", 4);
        dueRow(0, 2, 7, 3, 9);

        sentence(15, "BAD.");
        full();
        refused("sign(-1, 0)", BAD);
        refused("sign(6, 0)", BAD);
        refused("sign(0, -1)", BAD);
        refused("sign(0, 10)", BAD);
        refused("sign(0, " + LEAST + ")", BAD);
        anew("r9900k11");
        refused("sign(1, 0)", BAD);
        anew();
        refused("sign(0, 0)", BAD);
    }
}

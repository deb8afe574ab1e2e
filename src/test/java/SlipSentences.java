/** Promises 34 to 40: slips, moths, several ropes, lots. */
final class SlipSentences extends SentenceBench {
    @Override
    void tryAll() {
        slips();
        slipsTold();
        apart();
        lent();
        lentTold();
        moths();
        cuts();
        packs();
        packsTold();
        packsRefused();
        lots();
        lotsRight();
        lotsEnd();
    }

    private static int[] byTurns(int many) {
        int[] all = new int[many];
        for (int i = 0; i < many; i++) {
            all[i] = i % 2;
        }
        return all;
    }

    /** A call of ROW 0 that answers, and tells by asked(), and changes nothing else. */
    private void tells(String name, long want, int asked, int... row) {
        row(0, row);
        askedOtherwise();
        told(name + "(0)", want, asked);
        onlyTells(name + "(0)", want);
    }

    private void slips() {
        sentence(34, "One KNOT of a ROW slips: how many unlike ROWS of SIGNS are READ then (as the rest lies);");
        anew("r9900k11k12w13y014");
        tells("slips", 1, 0, 0);
        tells("slips", 2, 0, 1, 0);
        tells("slips", 1, 0, 1, 1);
        tells("slips", 2, 0, 0, 1);
        // A WILL slips, too.
        tells("slips", 3, 0, 1, 2, 0);
        tells("slips", 1, 0, 2);
        // What slips may part a PAIR, or let one be.
        tells("slips", 3, 0, 0, 1, 2);
        tells("slips", 3, 0, 0, 2, 1);
        anew("r9900k11k12");
        tells("slips", 20, 0, byTurns(20));
        tells("slips", 1, 0, times(20, 1));
        anew("r0505k91x00");
        tells("slips", 1, 0, 0, 0);
    }

    private void slipsTold() {
        sentence(34, "those places at which it still READS as it did (bits) by asked().");
        anew("r9900k11k11y001");
        tells("slips", 1, 3, 0, 0);
        tells("slips", 2, 3, 0, 0, 1);
        tells("slips", 2, 6, 1, 0, 0);
        tells("slips", 1, (1 << 20) - 1, times(20, 0));
        tells("slips", 1, 0, times(19, 0));
        tells("slips", 1, 0, 1);

        sentence(34, "(Without KNOTS: 0, 0.)");
        full();
        told("slips(4)", 0, 0);
        anew();
        tells("slips", 0, 0);

        sentence(34, "BAD; NOTHING; SIZE; UNLIKE.");
        knotRefusals("slips(%)", 20);
    }

    private void apartAre(int want, int[] one, int... other) {
        row(0, one);
        row(1, other);
        changesNothing("apart(0, 1)", want);
        changesNothing("apart(1, 0)", want);
        due("apart(0, 0)", 0);
    }

    private void apart() {
        sentence(35, "Whether two ROWS of KNOTS can be told apart, though one KNOT of each may have slipped, or none "
            + "(by what they READ then): 1, 0.");
        anew("r9900k11k12k13k11");
        apartAre(0, of(0, 1), 3, 1);
        apartAre(0, of(0, 1), 2, 0);
        apartAre(1, of(0, 1), 2, 2);
        apartAre(0, of(0, 1), 2, 0, 1);
        apartAre(0, of(0, 1), 0, 1, 2);
        apartAre(1, of(0, 1), 2, 0, 1, 2);
        apartAre(0, of());
        apartAre(0, of(), 2);
        apartAre(1, of(), 2, 2);
        int[] behind = byTurns(20);
        System.arraycopy(byTurns(19), 0, behind, 1, 19);
        behind[0] = 2;
        anew("r9900k11k12k13");
        apartAre(0, byTurns(20), behind);
        behind[19] = 2;
        apartAre(1, byTurns(20), behind);
        anew("r9900k11k12k14x01y014");
        apartAre(0, of(2), 0, 1, 1);
        apartAre(0, of(2), 0, 2, 1);
        apartAre(0, of(2, 2), 0, 1, 2);
        apartAre(0, of(1, 1), 0, 1);
        apartAre(1, of(1, 1, 1), 0, 1);
        apartAre(0, of(1, 2), 0, 1);

        sentence(35, "BAD; NOTHING: either; SIZE: either; UNLIKE: either.");
        knotRefusals("apart(%, 4)", 20);
        knotRefusals("apart(4, %)", 20);
        knotRefusals("apart(%, %)", 20);
        full();
        refused("apart(5, 6)", BAD);
        refused("apart(-1, 2)", BAD);
        refusedBy("apart(5, 2)", NOTHING);
        refusedBy("apart(2, 5)", NOTHING);
        refusedBy("apart(3, 5)", NOTHING);
        refusedBy("apart(2, 3)", SIZE);
        refusedBy("apart(3, 2)", SIZE);
    }

    private void lent() {
        sentence(36, "A ROW of KNOTS was lent, one KNOT (no WILL) was untied somewhere: how many RIGHT ROPES (of one KNOT more) "
            + "it can have been;");
        anew("r9900k11k12w13");
        tells("lent", 2, 0);
        tells("lent", 3, 2, 0);
        tells("lent", 5, 6, 0, 0, 1);
        tells("lent", 4, 8, 2);
        // What lies need not be RIGHT: what was untied stood between.
        anew("r9900k11k12x00");
        tells("lent", 1, 6, 0, 0);
        tells("lent", 0, 0, 0, 0, 0);
        anew("r0700h30k10");
        tells("lent", 2, 1, 1);
        tells("lent", 1, 1, 0);
        tells("lent", 2, 1);
        due("length(6)", 7);
        tells("lent", 1, 1, 1);
        tells("lent", 0, 0, 0);
        anew("r9900w11");
        tells("lent", 0, 0, 0);
        anew("r2000k11k11");
        tells("lent", 21, 2, times(19, 0));
        due("length(19)", 20);
        tells("lent", 0, 0, times(19, 0));
        anew();
        tells("lent", 0, 0);
    }

    private void lentTold() {
        sentence(36, "SIGNS (bits 0 .. 9) that each of them READ somewhere by asked() (0: there is none).");
        anew("r9900k10k19");
        tells("lent", 2, 0);
        tells("lent", 3, 1, 0);
        tells("lent", 3, 512, 1);
        tells("lent", 4, 513, 0, 1);
        anew("r9900k11k12y013");
        tells("lent", 3, 0, 0);
        anew("r9900k11k12x00y013");
        tells("lent", 2, 0, 0);
        anew("r9900k11k12x00x10y013");
        tells("lent", 1, 8, 0);
        anew("r0100k11");
        tells("lent", 0, 0, 0);
        tells("lent", 1, 2);

        sentence(36, "BAD; NOTHING; SIZE: more than 19; UNLIKE.");
        knotRefusals("lent(%)", 19);
        full();
        call("row(0, 20)");
        refusedBy("lent(0)", SIZE);
        call("row(0, 19)");
        due("lent(0)", 0);
    }

    private void moths() {
        sentence(37, "Moths cut a ROW of KNOTS ahead of place i, both parts are joined the other way round (the second one first): "
            + "it comes to another ROW (anew; perhaps the same): what that TAKES.");
        full();
        row(0, 2, 0, 3, 4);
        due("moths(0, 3, 5)", 1 + 1 + 2 + 7);
        dueRow(5, 4, 2, 0, 3);
        due("moths(0, 0, 2)", 2 + 2 + 6 + 1);
        dueRow(2, 2, 0, 3, 4);
        due("moths(0, 4, 2)", 11);
        dueRow(2, 2, 0, 3, 4);
        dueRow(0, 2, 0, 3, 4);
        due("moths(0, 1, 0)", 2 + 6 + 1 + 1);
        dueRow(0, 0, 3, 4, 2);
        due("moths(4, 0, 0)", 0);
        dueRow(0);
        // RIGHT or not.
        row(0, 0, 1, 0);
        due("moths(0, 2, 0)", 6);
        dueRow(0, 0, 0, 1);
        row(0, times(20, 3));
        call("lay(0, 0, 0)");
        due("moths(0, 1, 0)", 19 * 6 + 2);
        int[] due = times(20, 3);
        due[19] = 0;
        dueRow(0, due);
        dueRope(1, 5, 2, 0);

        sentence(37, "BAD; NOTHING; SIZE; UNLIKE;");
        knotRefusals("moths(%, 0, 0)", 20);
        full();
        refused("moths(0, 0, -1)", BAD);
        refused("moths(0, 0, 6)", BAD);
        refused("moths(5, 0, 6)", BAD);
        refused("moths(0, 9, 6)", BAD);
        refusedBy("moths(5, -1, 0)", NOTHING);
        refusedBy("moths(2, -1, 0)", SIZE);
        refusedBy("moths(3, -1, 0)", UNLIKE);
        refusedBy("moths(3, 3, 0)", UNLIKE);

        sentence(37, "BEYOND: not 0 .. its size.");
        full();
        refusedBy("moths(0, -1, 1)", BEYOND);
        refusedBy("moths(0, 4, 5)", BEYOND);
        refusedBy("moths(0, " + MOST + ", 1)", BEYOND);
        refusedBy("moths(0, " + LEAST + ", 1)", BEYOND);
        refusedBy("moths(4, 1, 1)", BEYOND);
        due("moths(0, 3, 5)", 6);
    }

    private void cuts() {
        sentence(38, "Ahead of how many places (1 .. its size less 1) a ROW of KNOTS can be cut so that, joined the other way round, "
            + "it is RIGHT;");
        anew("r9900k11k11k11x20x01");
        tells("cuts", 0, NONE);
        tells("cuts", 0, NONE, 1);
        tells("cuts", 1, 1, 1, 1);
        tells("cuts", 2, 1, 0, 2, 1);
        tells("cuts", 1, 2, 1, 2, 0, 2);
        anew("r9900k11");
        tells("cuts", 19, 1, times(20, 0));
        // The GIRTH, with what the new last one TAKES.
        anew("r0903h30k10");
        tells("cuts", 0, NONE, 1, 0);
        due("length(10)", 9);
        tells("cuts", 1, 1, 1, 0);
        tells("cuts", 0, NONE, 0, 1);
        due("length(11)", 10);
        tells("cuts", 1, 2, 0, 1, 1);

        sentence(38, "the first of these (NONE) by asked().");
        anew("r9900k11k11k11x12");
        tells("cuts", 1, 2, 0, 1, 2);
        anew("r9900k11k11k11x01");
        tells("cuts", 1, 1, 0, 1, 2);
        tells("cuts", 0, NONE, 1, 0);
        anew("r9900k11k11k11x20x01");
        tells("cuts", 0, NONE, 0, 1, 2);
        tells("cuts", 0, NONE, 2, 0, 1);

        sentence(38, "BAD; NOTHING; SIZE; UNLIKE.");
        knotRefusals("cuts(%)", 20);
    }

    private void packs() {
        sentence(39, "Several matters that TAKE so much each (a ROW, 0 .. 99 each, 6 at most) on ropes of the LENGTH that must go "
            + "round the GIRTH: on how few;");
        anew("r1505k11");
        tells("packs", 0, 0);
        tells("packs", 1, 1, 0);
        tells("packs", 1, 1, 10);
        tells("packs", 1, 63, 0, 0, 0, 0, 0, 0);
        tells("packs", 1, 15, 1, 2, 3, 4);
        tells("packs", 2, 1, 5, 5, 5);
        tells("packs", 2, 1, 10, 1);
        tells("packs", 6, 1, 10, 10, 10, 10, 10, 10);
        tells("packs", 3, 9, 3, 3, 3, 7, 7, 7);
        tells("packs", 3, 3, 4, 4, 4, 4, 4, 4);
        due("length(5)", 15);
        tells("packs", 1, 3, 0, 0);
        due("length(99)", 5);
        tells("packs", 1, 3, 47, 47);
        tells("packs", 2, 1, 47, 48);
        anew("r9900");
        tells("packs", 2, 1, 99, 99);
        tells("packs", 2, 3, 49, 50, 50, 49);
        // Not first come, first served, and not the longest ones first.
        anew("r1000k11");
        tells("packs", 2, 5, 2, 9, 8, 1);
        tells("packs", 2, 7, 4, 3, 3, 6, 4);
        tells("packs", 2, 13, 4, 4, 3, 3, 6);
        tells("packs", 2, 11, 2, 3, 4, 5, 6);
    }

    private void packsTold() {
        sentence(39, "which are on one rope with the first matter then (bits; of alike ways the least; 0 without any) by asked().");
        anew("r1505k11");
        tells("packs", 2, 5, 6, 6, 4, 4);
        tells("packs", 2, 3, 4, 6, 3, 3, 4);
        tells("packs", 2, 1, 10, 10, 0);
        tells("packs", 1, 3, 0, 10);
        tells("packs", 2, 1, 1, 9, 1);
        tells("packs", 2, 3, 1, 1, 9, 1);
        tells("packs", 3, 1, 5, 1, 9, 9);
        tells("packs", 6, 1, 9, 9, 9, 9, 9, 9);
        tells("packs", 2, 33, 5, 2, 2, 2, 4, 5);
        // Without any, though there were some ahead.
        row(0, 9);
        told("packs(0)", 1, 1);
        tells("packs", 0, 0);
        // Only those that are there now.
        full();
        row(0, 99, 99, 99, 99, 99, 99);
        due("lies(0)", 4);
        told("packs(0)", 1, 15);
    }

    private void packsRefused() {
        sentence(39, "NONE: one is too long by itself.");
        anew("r1505k11");
        int[][] tooLong = {of(11), of(99), of(5, 11), of(0, 0, 0, 0, 0, 11)};
        for (int[] matters : tooLong) {
            row(0, matters);
            told("at(0, 0)", 1, matters[0]);
            changesNothing("packs(0)", NONE);
        }
        due("length(16)", 15);
        row(0, 11);
        due("packs(0)", 1);
        row(0, 12);
        changesNothing("packs(0)", NONE);
        due("length(5)", 16);
        row(0, 1);
        changesNothing("packs(0)", NONE);

        sentence(39, "BAD; NOTHING; SIZE: more than 6; UNLIKE.");
        full();
        refused("packs(-1)", BAD);
        refused("packs(6)", BAD);
        refusedBy("packs(5)", NOTHING);
        refusedBy("packs(1)", SIZE);
        row(0, 0, 0, 0, 0, 0, 0, 0);
        refusedBy("packs(0)", SIZE);
        row(0, -1, 0, 0, 0, 0, 0, 100);
        refusedBy("packs(0)", SIZE);
        row(0, 0, 0, 0, 0, 0, -1);
        refusedBy("packs(0)", UNLIKE);
        row(0, 100);
        refusedBy("packs(0)", UNLIKE);
        row(0, 99, 100);
        refusedBy("packs(0)", UNLIKE);
        row(0, 1, LEAST);
        refusedBy("packs(0)", UNLIKE);
        row(0, 99);
        changesNothing("packs(0)", NONE);
        row(0, 0, 0, 0, 0, 0, 20);
        due("packs(0)", 1);
    }

    // ---- lots

    private static final String SIX_ALIKE = "r9900k11k11k11k11k11k11";

    private void lots() {
        sentence(40, "A ROPE by LOTS of a seed: a number comes from the one ahead by 48271 times it modulo 2147483647, "
            + "the first from the seed (1 .. 2147483646):");
        anew(SIX_ALIKE);
        // 48271, 182605794, 1291394886, 1914720637, 2078669041, 407355683, each modulo 6.
        due("lots(6, 1, 0)", 6);
        dueRow(0, 1, 0, 0, 1, 1, 5);
        // 2147435376
        due("lots(1, 2147483646, 0)", 1);
        dueRow(0, 0);
        int[] seeds = {1, 2, 44488, 44489, 1000000007, 2147483645, 2147483646};
        for (int seed : seeds) {
            long number = seed;
            int[] due = new int[20];
            for (int i = 0; i < due.length; i++) {
                number = number * 48271 % 2147483647;
                due[i] = (int) (number % 6);
            }
            due("lots(20, " + seed + ", 1)", 20);
            dueRow(1, due);
        }
        due("asked()", 0);
        due("upper()", 0);
    }

    /** What the lots give, KNOT by KNOT by what tie() does not refuse. */
    private int[] drawn(String craft, int n, int seed) {
        anew(craft);
        long number = seed;
        int[] drawn = new int[n];
        for (int i = 0; i < n; i++) {
            int[] can = new int[6];
            int many = 0;
            call("keep(0)");
            for (int k = 0; k < 6; k++) {
                if (call("tie(" + k + ")") >= 0) {
                    can[many] = k;
                    many++;
                }
                call("on(0)");
            }
            if (many == 0) {
                return java.util.Arrays.copyOf(drawn, i);
            }
            number = number * 48271 % 2147483647;
            drawn[i] = can[(int) (number % many)];
            call("tie(" + drawn[i] + ")");
        }
        return drawn;
    }

    private void lotsOf(String craft, int n, int seed) {
        int[] due = drawn(craft, n, seed);
        anew(craft);
        due("lots(" + n + ", " + seed + ", 0)", due.length);
        dueRow(0, due);
    }

    private void lotsRight() {
        sentence(40, "KNOT by KNOT from nothing on, n (0 .. 20) at most, of those by which it is RIGHT (as if it ended there) "
            + "the one at the number modulo how many there are (from 0);");
        for (int seed = 1; seed <= 5; seed++) {
            lotsOf(ALL, 20, seed);
            lotsOf(ALL, 3, 7777777 * seed);
            lotsOf("r9900k11k12k13x00x01x11", 20, seed);
            lotsOf("r1103h30k10b22s21", 20, seed);
        }
        // A HITCH would TAKE 7 as the last one: of two alone one is RIGHT.
        anew("r0600h30k20");
        due("lots(1, 1, 0)", 1);
        dueRow(0, 1);
        due("length(7)", 6);
        due("lots(1, 2, 0)", 1);
        dueRow(0, 0);
        anew(SIX_ALIKE);
        due("lots(0, 1, 0)", 0);
        dueRow(0);
        tie(3);
        due("lots(1, 1, 0)", 1);
        dueRow(0, 1);
        dueRope(3);
    }

    private void lotsEnd() {
        sentence(40, "it ends where none is: it comes to a ROW (anew): how many KNOTS.");
        anew("r1004k20");
        due("lots(20, 5, 0)", 3);
        dueRow(0, 0, 0, 0);
        due("lots(3, 5, 0)", 3);
        due("lots(2, 5, 0)", 2);
        call("row(1, 40)");
        due("lots(20, 5, 1)", 3);
        dueRow(1, 0, 0, 0);
        due("length(5)", 10);
        due("lots(20, 5, 1)", 0);
        dueRow(1);
        anew("r9900k11x00");
        due("lots(20, 5, 0)", 1);
        dueRow(0, 0);
        anew();
        due("lots(20, 5, 5)", 0);
        dueRow(5);
        due("count(6)", 1);

        sentence(40, "BAD.");
        full();
        refused("lots(-1, 1, 0)", BAD);
        refused("lots(21, 1, 0)", BAD);
        refused("lots(1, 0, 0)", BAD);
        refused("lots(1, -1, 0)", BAD);
        refused("lots(1, 2147483647, 0)", BAD);
        refused("lots(1, " + LEAST + ", 0)", BAD);
        refused("lots(1, 1, -1)", BAD);
        refused("lots(1, 1, 6)", BAD);
        refused("lots(0, 0, 0)", BAD);
        same("lots(20, 1, 0) is refused", call("lots(20, 1, 0)") < 0 ? 1 : 0, 0);
    }
}

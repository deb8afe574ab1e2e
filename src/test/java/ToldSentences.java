/** What the Terms say of refusals, FINDINGS and what is told, and promises 41 to 47. */
final class ToldSentences extends SentenceBench {
    /** Each call that tells neither by asked() nor by upper(), so that it answers something else than a refusal on full(). */
    private static final String[] SILENT = {"row(5, 3)", "tear(4)", "copy(0, 0, 2, 0, 3)", "text(3, 5)", "put(0, 0, 114)",
        "fault(0)", "mark(3, 1)", "length(31)", "sign(0, 7)", "tie(4)", "untie(1)", "rope(0)", "reads(5)", "lies(5)", "keep(1)",
        "on(0)", "takes(0)", "says(0, 5)", "nth(2, 3, 5)", "shortest(4, 5)", "signs(4, 5)", "both(4, 4, 5)", "apart(0, 4)",
        "moths(0, 1, 5)", "lots(5, 7, 5)", "upTo(4)", "count(0)", "finding()", "findings(1)", "digest()", "asked()", "upper()",
        "craft(0)", "change(4, 5)"};

    @Override
    void tryAll() {
        order();
        none();
        findings();
        rowsAndTexts();
        asked();
        askedStays();
        upper();
        upTo();
        count();
        finding();
        digest();
        digestOfEach();
    }

    private void order() {
        sentence(TERMS, "Refused is, the first of these that fits, in this order: BAD -1 (a number that is none, or not as told), "
            + "FULL -2, STATE -4 (not now), SPENT -6 (more than told), FINDING -3 (finding() tells which), "
            + "unless a call says so otherwise.");
        same("BAD", KnotRopes.BAD, -1);
        same("FULL", KnotRopes.FULL, -2);
        same("STATE", KnotRopes.STATE, -4);
        same("SPENT", KnotRopes.SPENT, -6);
        same("FINDING", KnotRopes.FINDING, -3);
        same("NONE", KnotRopes.NONE, -9);
        // BAD ahead of STATE.
        refused("length(100)", BAD);
        refused("keep(3)", BAD);
        refused("tie(0)", BAD);
        anew(ALL);
        tie(5);
        refused("untie(2)", BAD);
        refused("length(0)", BAD);
        // BAD ahead of a FINDING.
        refused("row(6, -1)", BAD);
        refused("copy(0, 0, 6, 0, -1)", BAD);
        refused("says(0, 6)", BAD);
        refused("nth(20, -1, 0)", BAD);
        refused("mark(0, 6)", BAD);
        refused("moths(0, -1, 6)", BAD);
        refused("both(0, 1, 6)", BAD);

        sentence(TERMS, "What is refused changes nothing but finding(), findings().");
        full();
        refused("row(0, 41)", BAD);
        refused("craft(1)", STATE);
        refused("tie(0)", STATE);
        refused("untie(3)", STATE);
        refusedBy("row(0, -1)", SIZE);
        refusedBy("copy(0, 0, 4, 0, 3)", BEYOND);
        refusedBy("on(1)", NOTHING);
        refusedBy("mean(4)", NOUGHT);
        refusedBy("mark(0, 5)", UNLIKE);
        refusedBy("says(2, 0)", SIZE);
        refusedBy("nth(1, 6, 0)", NOUGHT);
        refusedBy("moths(0, 4, 0)", BEYOND);
    }

    private void none() {
        sentence(TERMS, "NONE -9 (a ROW that something was to come to stays as it is then).");
        for (String name : new String[] {"shortest", "signs", "change"}) {
            full();
            row(0, 9);
            changesNothing(name + "(0, 1)", NONE);
            changesNothing(name + "(0, 4)", NONE);
            changesNothing(name + "(0, 5)", NONE);
            changesNothing(name + "(0, 0)", NONE);
            dueRow(0, 9);
            dueRow(4);
            dueMissing(5);
        }
        full();
        row(0, 9);
        changesNothing("both(0, 4, 1)", NONE);
        changesNothing("both(4, 0, 5)", NONE);
        changesNothing("both(0, 0, 0)", NONE);
        row(0, 21);
        changesNothing("packs(0)", NONE);
        changesNothing("fault(0)", NONE);
    }

    private void findings() {
        sentence(TERMS, "FINDINGS: 1 NOTHING (a ROW, a TEXT, a kept ROPE that is missing),");
        full();
        refusedBy("at(5, 0)", 1);
        refusedBy("put(3, 0, 0)", 1);
        refusedBy("on(1)", 1);

        sentence(TERMS, "2 BEYOND (a place that there is not),");
        full();
        refusedBy("at(0, 3)", 2);
        refusedBy("put(0, 53, 0)", 2);
        refusedBy("rope(4)", 2);
        refusedBy("moths(0, 4, 1)", 2);
        refusedBy("copy(0, 0, 1, 0, 4)", 2);

        sentence(TERMS, "3 UNLIKE (a KNOT of another KIND; a number that is none),");
        full();
        refusedBy("mark(0, 1)", 3);
        refusedBy("takes(3)", 3);
        refusedBy("ways(3)", 3);
        row(0, 100);
        refusedBy("packs(0)", 3);

        sentence(TERMS, "4 NOUGHT (shared among none; what can't be),");
        full();
        refusedBy("mean(4)", 4);
        refusedBy("nth(1, 6, 0)", 4);

        sentence(TERMS, "5 SIZE (fewer than none; not as many as due).");
        full();
        refusedBy("row(0, -1)", 5);
        refusedBy("text(0, -1)", 5);
        refusedBy("copy(0, 0, 0, 0, -1)", 5);
        refusedBy("judge(2)", 5);
        refusedBy("ways(1)", 5);
        refusedBy("packs(1)", 5);

        sentence(TERMS, "What there are many of is told by upper(), too.");
        anew("r9900k11k11k11k11k11k11");
        many("ropes(20)", 3656158440062976L);
        row(0, 1, 1, 1, 1, 1, 1, 1, 1, 1, 1, 1, 1);
        many("ways(0)", 2176782336L);

        sentence(TERMS, "Sets (of KNOTS, of places) are told by bits.");
        anew("r9900k11k11x00x01y001");
        told("knot(0, 4)", 1, 1 + 2);
        row(0, 1, 0, 0);
        told("slips(0)", 2, 2 + 4);
        row(0, 50, 50, 49);
        told("packs(0)", 2, 1);
        row(0, 50, 60, 49);
        told("packs(0)", 2, 1 + 4);
    }

    private void rowsAndTexts() {
        sentence(TERMS, "======== 1 ROWS 0 .. 5 are rows of 0 to 40 ints, TEXTS 0 .. 3 rows of 0 to 80 bytes, or missing (at first).");
        for (int r = 0; r < 6; r++) {
            dueMissing(r);
            due("row(" + r + ", 0)", 0);
            due("row(" + r + ", 40)", 40);
            dueRow(r, new int[40]);
            refused("row(" + r + ", 41)", BAD);
        }
        refused("row(6, 0)", BAD);
        refused("row(-1, 0)", BAD);
        due("count(6)", 6);
        anew();
        for (int t = 0; t < 4; t++) {
            refusedBy("fault(" + t + ")", NOTHING);
            due("text(" + t + ", 0)", 0);
            refusedBy("put(" + t + ", 0, 0)", BEYOND);
            due("text(" + t + ", 80)", 80);
            due("put(" + t + ", 79, 0)", 1032);
            refused("text(" + t + ", 81)", BAD);
        }
        refused("text(4, 0)", BAD);
        refused("text(-1, 0)", BAD);
        due("count(7)", 4);
    }

    private void asked() {
        sentence(41, "What the latest lay(), at(), mean(), knot(), left(), judge(), slips(), lent(), cuts(), packs() "
            + "that was not refused (nor NONE, but as told) told;");
        full();
        told("lay(0, 1, 7)", 1, 1);
        told("at(0, 1)", 1, 7);
        told("mean(0)", 1, 3);
        told("knot(3, 3)", 1, 6);
        told("left()", 4, 22);
        row(0, 0, 0);
        told("judge(0)", 1, 1);
        told("slips(0)", 1, 0);
        told("left()", 4, 22);
        row(0, 0, 1);
        told("lent(0)", 11, 0);
        told("cuts(0)", 1, 1);
        told("packs(0)", 1, 3);
        row(0, 0);
        told("cuts(0)", 0, NONE);
        // Refused, or NONE.
        told("at(0, 1)", FINDING, NONE);
        told("left()", 4, 22);
        row(4, 21);
        told("left()", 4, 22);
        told("packs(4)", NONE, 22);
        String[] refused = {"lay(0, 9, 1)", "at(5, 0)", "mean(5)", "judge(2)", "slips(3)", "lent(2)", "cuts(5)", "packs(1)"};
        for (String text : refused) {
            told(text, FINDING, 22);
        }
        told("knot(6, 0)", BAD, 22);
        told("knot(0, 5)", BAD, 22);

        sentence(41, "0 before.");
        due("asked()", 0);
        told("at(0, 0)", FINDING, 0);
        anew(ALL);
        due("asked()", 0);
        told("ropes(2)", 1, 0);
    }

    private void askedStays() {
        for (String text : SILENT) {
            full();
            told("left()", 4, 22);
            long got = call(text);
            same(text + " is refused", got < 0 && got >= STATE ? 1 : 0, 0);
            same("behind " + text + ": asked()", call("asked()"), 22);
            same("behind " + text + ": upper()", call("upper()"), 34);
        }
        full();
        told("left()", 4, 22);
        told("ropes(1)", 1, 22);
        told("ways(4)", 1, 22);
    }

    private void upper() {
        sentence(42, "What ropes(), ways() told last; 0 before.");
        due("upper()", 0);
        anew(ALL);
        due("upper()", 0);
        many("ropes(2)", 34);
        row(0, 4, 1, 3);
        many("ways(0)", 3);
        many("ropes(0)", 1);
        row(0, 9);
        many("ways(0)", 0);
        many("ropes(2)", 34);
        due("upTo(5)", call("upTo(5)"));
        refused("ropes(21)", BAD);
        refusedBy("ways(5)", NOTHING);
        due("upper()", 34);
        told("left()", 0, 40);
        due("upper()", 34);
    }

    private void upTo() {
        sentence(43, "How many RIGHT ROPES of 0 to n (0 .. 20) KNOTS there are together;");
        anew(TWO);
        long[] due = {1, 3, 7, 15, 30, 46, 53, 54, 54};
        for (int n = 0; n < due.length; n++) {
            changesNothing("upTo(" + n + ")", due[n]);
        }
        due("upTo(20)", 54);
        due("length(8)", 12);
        due("upTo(20)", 1 + 2 + 3 + 1);
        anew("r9900b11b11b11b11b11b11");
        due("upTo(20)", 4387390128075571L);
        due("upTo(19)", 4387390128075571L - 3656158440062976L);
        anew();
        due("upTo(0)", 1);
        due("upTo(20)", 1);

        sentence(43, "0 for others.");
        full();
        changesNothing("upTo(-1)", 0);
        changesNothing("upTo(21)", 0);
        changesNothing("upTo(" + MOST + ")", 0);
        changesNothing("upTo(" + LEAST + ")", 0);
    }

    private void counts(int... due) {
        for (int what = 0; what < due.length; what++) {
            changesNothing("count(" + what + ")", due[what]);
        }
    }

    private void count() {
        sentence(44, "0 KNOTS of the CRAFT, 1 KNOTS of THE ROPE, 2 LOOPS (HITCHES, too), 3 BENDS (SHEEP, too), 4 LAWS, 5 PAIRS, "
            + "6 ROWS, 7 TEXTS that are there, 8 kept ROPES.");
        counts(0, 0, 0, 0, 0, 0, 0, 0, 0);
        full();
        counts(6, 4, 2, 2, 2, 4, 5, 3, 2);
        call("tear(0)");
        call("row(5, 0)");
        call("text(3, 0)");
        call("keep(1)");
        call("keep(1)");
        call("untie(2)");
        counts(6, 2, 2, 2, 2, 4, 5, 4, 3);
        anew("r9900o11o11o11b11s11x00x00x01y000y000y000");
        counts(5, 0, 3, 2, 3, 3, 0, 1, 0);
        anew("r9900h11s11k11w11");
        counts(4, 0, 1, 1, 0, 0, 0, 1, 0);

        sentence(44, "BAD.");
        full();
        refused("count(-1)", BAD);
        refused("count(9)", BAD);
        refused("count(" + LEAST + ")", BAD);
        refused("count(" + MOST + ")", BAD);
    }

    private void finding() {
        sentence(45, "The latest FINDING (0 before any).");
        due("finding()", 0);
        refused("row(7, 0)", BAD);
        due("finding()", 0);
        anew(ALL);
        due("finding()", 0);
        String[] by = {"tear(0)", "rope(4)", "mark(0, 1)", "nth(1, 6, 0)", "row(0, -1)"};
        for (int f = 1; f <= 5; f++) {
            due(by[f - 1], FINDING);
            due("finding()", f);
        }
        due(by[0], FINDING);
        due("finding()", 1);
        // What is refused otherwise, or not refused, leaves it.
        refused("tie(6)", BAD);
        tie(5);
        refused("untie(1)", STATE);
        changesNothing("takes(9)", BAD);
        row(0, 9);
        changesNothing("shortest(0, 0)", NONE);
        due("finding()", 1);
        due("craft(0)", 6);
        due("finding()", 1);

        sentence(46, "How often a FINDING (1 .. 5) was answered.");
        anew(ALL);
        for (int f = 1; f <= 5; f++) {
            for (int often = 1; often <= f; often++) {
                changesNothing("findings(" + f + ")", often - 1);
                due(by[f - 1], FINDING);
            }
        }
        for (int f = 1; f <= 5; f++) {
            due("findings(" + f + ")", f);
        }
        due("craft(0)", 6);
        due("findings(5)", 5);

        sentence(46, "BAD.");
        full();
        refused("findings(0)", BAD);
        refused("findings(6)", BAD);
        refused("findings(-1)", BAD);
        refused("findings(" + MOST + ")", BAD);
    }

    private static long on(long h, long... values) {
        for (long v : values) {
            h = 31 * h + v;
        }
        return h;
    }

    private static long onText(long h, String text) {
        h = on(h, text.length());
        for (int i = 0; i < text.length(); i++) {
            h = on(h, (byte) text.charAt(i));
        }
        return h;
    }

    private void digest() {
        sentence(47, "h = 17; then h = 31 h + v for each v (of a call that tells by asked(): what it tells, not the 1 that it answers; "
            + "asked() stays): count() 0 to 8; LENGTH, GIRTH; of each KNOT knot() 0 to 4; of each PAIR both KNOTS, its SIGN; "
            + "THE ROPE's KNOTS; of each kept ROPE how many KNOTS (-1: missing); of each ROW its size (-1: missing) and places, "
            + "of each TEXT likewise.");
        full();
        call("row(1, 1)");
        call("lay(1, 0, " + LEAST + ")");
        row(2, 21, MOST);
        call("put(1, 1, 200)");
        told("left()", 4, 22);
        long h = on(17, 6, 4, 2, 2, 2, 4, 5, 3, 2);
        h = on(h, 30, 10);
        h = on(h, 0, 2, 1, 2, 1, 1, 1, 2, 2, 8, 2, 2, 3, 2, 0, 3, 3, 1, 6, 0, 4, 1, 2, 1, 0, 5, 2, 4, 2, 0);
        h = on(h, 0, 1, 4, 2, 5, 2, 4, 2, 1, 0, 0, 3);
        h = on(h, 1, 5, 2, 0);
        h = on(h, 3, -1, 4);
        h = on(h, 3, 0, 1, 2);
        h = on(h, 1, LEAST);
        h = on(h, 2, 21, MOST);
        h = on(h, 2, 1, 10);
        h = on(h, 0);
        h = on(h, -1);
        h = onText(h, ALL);
        h = on(h, 2, 'r', -56);
        h = on(h, 0);
        h = on(h, -1);
        changesNothing("digest()", h);
        due("asked()", 22);
        due("upper()", 34);
    }

    private void digestOfEach() {
        String[] changes = {"lay(0, 2, 3)", "tear(4)", "row(4, 1)", "row(5, 0)", "put(0, 0, 1)", "text(2, 1)", "text(3, 0)",
            "craft(0)", "length(31)", "sign(3, 9)", "tie(4)", "untie(1)", "reads(0)", "keep(0)", "keep(1)", "on(0)"};
        for (String change : changes) {
            full();
            long before = call("digest()");
            call(change);
            same("the digest changes by " + change, call("digest()") == before ? 1 : 0, 0);
        }
    }
}

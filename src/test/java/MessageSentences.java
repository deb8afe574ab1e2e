/** Promises 29 to 33: MESSAGES. */
final class MessageSentences extends SentenceBench {
    @Override
    void tryAll() {
        shortest();
        shortestNone();
        ways();
        signs();
        signsAlike();
        change();
        changeTo();
        changeNone();
        both();
        bothLeast();
        bothRefused();
    }

    /** Refused whatever the ROW is, if the one that something is to come to is none. */
    private void badTo(String name) {
        full();
        refused(name + "(0, -1)", BAD);
        refused(name + "(0, 6)", BAD);
        refused(name + "(5, 6)", BAD);
        refused(name + "(2, -1)", BAD);
        refused(name + "(3, 6)", BAD);
        refusedBy(name + "(5, 5)", NOTHING);
        dueMissing(5);
    }

    private void shortestOf(String craft, int[] message, int want, int... knots) {
        anew(craft);
        row(0, message);
        due("shortest(0, 1)", want);
        dueRow(1, knots);
        dueRow(0, message);
    }

    private void shortest() {
        sentence(29, "The ROPE that SAYS a MESSAGE (a ROW) and TAKES least (the first of alike ones) comes to another ROW "
            + "(anew; perhaps the same): what it TAKES.");
        shortestOf("r9900k11", of(), 0);
        shortestOf("r9900k31k21k21", of(1), 2, 1);
        shortestOf("r9900k31k21k21", of(1, 1), 4, 1, 1);
        // By a PAIR, by one KNOT, or both ways alike.
        shortestOf("r9900k10k11k95y015", of(5), 2, 0, 1);
        shortestOf("r9900k10k91k55y015", of(5), 5, 2);
        shortestOf("r9900k10k11k25y015", of(5), 2, 0, 1);
        shortestOf("r9900k25k10k11y125", of(5), 2, 0);
        // Not by two that would be read as a PAIR, unless a PAIR ahead has read the first of them.
        shortestOf("r9900k10k30y005", of(0, 0), 4, 0, 1);
        shortestOf("r9900k10y005", of(5, 0), 3, 0, 0, 0);
        shortestOf("r9900k10k11y015y116", of(5, 1), 3, 0, 1, 1);
        // Not by what a LAW is against.
        shortestOf("r9900k10k20x00", of(0, 0), 3, 0, 1);
        shortestOf("r9900k10k20x00x01", of(0, 0), 3, 1, 0);
        // A last HITCH TAKES 1 more, a BEND behind a BEND 1 less.
        shortestOf("r9900h11k21", of(1), 2, 1);
        shortestOf("r9900h11k31", of(1), 3, 0);
        shortestOf("r9900h11k21x01", of(1, 1), 4, 1, 1);
        shortestOf("r9900h11k31", of(1, 1), 5, 0, 0);
        shortestOf("r9900k21b21", of(1, 1), 3, 1, 1);
        shortestOf("r9900k11b21", of(1, 1), 2, 0, 0);
        shortestOf("r9900k12s22b21", of(2, 1), 3, 0, 2);
        // All that may be TAKEN.
        shortestOf("r1204k40", of(0, 0), 8, 0, 0);
        shortestOf("r0703b21", of(1, 1, 1), 4, 0, 0, 0);
        shortestOf("r9900k11", times(12, 1), 12, times(12, 0));
        shortestOf("r9900b10y007", times(10, 7), 1, times(20, 0));
        full();
        row(0, 4, 1);
        told("at(0, 1)", 1, 1);
        due("shortest(0, 5)", 4);
        dueRow(5, 5, 0);
        due("shortest(0, 2)", 4);
        dueRow(2, 5, 0);
        due("shortest(0, 0)", 4);
        dueRow(0, 5, 0);
        due("asked()", 1);
        due("upper()", 34);
        dueRope(1, 5, 2, 0);
    }

    private void noShortest(String craft, int... message) {
        anew(craft);
        row(0, message);
        row(1, 7, 7);
        changesNothing("shortest(0, 1)", NONE);
        changesNothing("shortest(0, 2)", NONE);
        changesNothing("shortest(0, 0)", NONE);
        dueRow(0, message);
        dueRow(1, 7, 7);
        dueMissing(2);
    }

    private void shortestNone() {
        sentence(29, "NONE: there is none.");
        noShortest("r9900k11", 2);
        noShortest("r9900", 0);
        noShortest("r9900k10y005", 0, 0);
        noShortest("r9900k10x00", 0, 0);
        noShortest("r1205k40", 0, 0);
        noShortest("r0600h30", 0);
        noShortest("r9900k12s22y015y105", 5);
        noShortest("r9900b10y007", times(11, 7));
        noShortest("r1010k11", 1);
        anew();
        row(0, 0);
        changesNothing("shortest(0, 1)", NONE);
        dueMissing(1);

        sentence(29, "BAD; NOTHING; SIZE: more than 12; UNLIKE.");
        messageRefusals("shortest(%, 0)");
        badTo("shortest");
    }

    private void waysOf(String craft, long want, int... message) {
        anew(craft);
        row(0, message);
        many("ways(0)", want);
        onlyTells("ways(0)", 1);
    }

    private void ways() {
        sentence(30, "How many ROPES SAY a MESSAGE, told by upper(): 1.");
        waysOf("r9900k11", 1);
        waysOf("r9900k11", 0, 2);
        waysOf("r9900k11k11k12", 4, 1, 2, 1);
        waysOf("r9900k15k11k12y125y215y005", 4, 5);
        waysOf("r9900k15y005", 2, 5);
        waysOf("r9900k15y005y005", 2, 5, 5);
        waysOf("r9900k11k11x01", 3, 1, 1);
        waysOf("r1204k41k51", 1, 1, 1);
        waysOf("r0400b21b31", 3, 1, 1);
        waysOf("r0703b21s31k11", 8, 1, 1);
        waysOf("r0400b21k11", 7, 1, 1, 1);
        waysOf("r0900h31k21", 3, 1, 1);
        waysOf("r0800h31k21", 2, 1, 1);
        waysOf("r9900s11k12y015y105", 0, 5);
        waysOf("r9900k11k11k11k11k11k11", 2176782336L, times(12, 1));
        waysOf("r9900b10b17y007", 4096 - 1 - 12 - 66 - 220, times(12, 7));
        anew();
        row(0);
        many("ways(0)", 1);
        row(0, 0);
        many("ways(0)", 0);
        due("count(6)", 1);

        sentence(30, "BAD; NOTHING; SIZE; UNLIKE.");
        messageRefusals("ways(%)");
        full();
        due("ways(0)", 1);
    }

    private void signsOf(String craft, int[] message, int want, int... whose) {
        anew(craft);
        row(0, message);
        due("signs(0, 1)", want);
        dueRow(1, whose);
        // With the SIGNS so, the shortest ROPE TAKES as much.
        int[] had = new int[whose.length];
        for (int k = 0; k < whose.length; k++) {
            call("knot(" + k + ", 2)");
            had[k] = (int) call("asked()");
        }
        for (int k = 0; k < whose.length; k++) {
            call("sign(" + k + ", " + had[whose[k]] + ")");
        }
        due("shortest(0, 2)", want);
    }

    private void signs() {
        sentence(31, "SIGNS of KNOTS changed among them so that the shortest ROPE of a MESSAGE TAKES least: whose SIGN each has "
            + "comes to a ROW (anew; of alike ones the first, by KNOTS): what it TAKES then.");
        signsOf("r9900k91k12k23", of(1, 1, 3), 4, 1, 0, 2);
        signsOf("r9900k91k12k23", of(3), 1, 0, 2, 1);
        signsOf("r9900k91k12k23", of(2), 1, 0, 1, 2);
        signsOf("r9900k11k22k33k44k55k66", of(6, 6, 5), 4, 5, 4, 0, 1, 2, 3);
        signsOf("r9900k11", of(), 0, 0);
        signsOf("r9900k11k22k33", of(), 0, 0, 1, 2);
        signsOf("r9900b11o12h93", of(3, 2), 3, 1, 2, 0);
        signsOf("r0300k91k12", of(1, 1), 2, 1, 0);
        signsOf("r0300k91k12", of(2, 2), 2, 0, 1);
        full();
        row(0, 4);
        due("signs(0, 5)", 1);
        dueRow(5, 0, 1, 2, 3, 5, 4);
        due("signs(0, 2)", 1);
        dueRow(2, 0, 1, 2, 3, 5, 4);
        due("signs(0, 0)", 1);
        dueRow(0, 0, 1, 2, 3, 5, 4);
        for (int k = 0; k < 6; k++) {
            told("knot(" + k + ", 2)", 1, of(1, 2, 3, 1, 2, 4)[k]);
        }
    }

    private void signsAlike() {
        sentence(31, "(Each SIGN goes to one; PAIRS stay.)");
        // One SIGN 1 alone: both 1s can't be said by the shorter of two unlike KNOTS.
        signsOf("r9900k11k92x00", of(1, 2), 10, 0, 1);
        signsOf("r9900k11k21k33x00", of(1, 1), 3, 0, 1, 2);
        signsOf("r9900k51k12y115", of(5), 2, 0, 1);
        signsOf("r9900k51k12k93y015", of(5), 6, 0, 1, 2);
        signsOf("r9900k10k25y009", of(5), 1, 1, 0);

        sentence(31, "NONE: none SAYS it.");
        String[] crafts = {"r9900k11k12", "r0300k21k22", "r9900k13k13x00x01x10x11"};
        for (String craft : crafts) {
            anew(craft);
            row(0, 3, 3);
            row(1, 8);
            changesNothing("signs(0, 1)", NONE);
            changesNothing("signs(0, 2)", NONE);
            changesNothing("signs(0, 0)", NONE);
            dueRow(1, 8);
            dueMissing(2);
        }
        anew();
        row(0, 0);
        changesNothing("signs(0, 1)", NONE);
        row(0);
        due("signs(0, 1)", 0);
        dueRow(1);

        sentence(31, "BAD; NOTHING; SIZE; UNLIKE.");
        messageRefusals("signs(%, 0)");
        badTo("signs");
    }

    private void changeOf(int want, int[] message, int... knots) {
        row(0, message);
        due("change(0, 1)", want);
        dueRow(1, knots);
        dueRow(0, message);
    }

    private void change() {
        sentence(32, "THE ROPE shall SAY a MESSAGE: the fewest KNOTS to be untied (no WILL), others being tied then: how many;");
        anew(TWO);
        changeOf(0, of());
        changeOf(0, of(0, 1), 0, 1);
        tie(0, 0, 1);
        changeOf(0, of(2, 1), 0, 0, 1);
        changeOf(0, of(2, 1, 0), 0, 0, 1, 0);
        changeOf(0, of(2, 3), 0, 0, 1, 1);
        changeOf(1, of(2), 0, 0);
        changeOf(1, of(2, 0), 0, 0, 0);
        changeOf(2, of(0, 1), 0, 1);
        changeOf(2, of(0), 0);
        changeOf(3, of(1), 1);
        changeOf(3, of());
        dueRope(0, 0, 1);
        // Too long by now: it has to be untied until what is LEFT is enough.
        anew("r9900k31k11y112");
        tie(0, 0, 0);
        due("length(8)", 99);
        changeOf(1, of(1, 1, 1), 0, 0, 1);
        due("length(9)", 8);
        changeOf(0, of(1, 1, 1), 0, 0, 0);
        due("length(6)", 9);
        changeOf(3, of(1, 1, 1), 1, 0, 1);
        anew("r0703b21k11");
        tie(0, 0, 0);
        changeOf(0, of(1, 1, 1), 0, 0, 0);
        changeOf(1, of(1, 1), 0, 0);
        anew("r9900k11w12k13");
        tie(0, 1, 0, 2);
        changeOf(2, of(1, 2), 0, 1);
        changeOf(1, of(1, 2, 1, 1), 0, 1, 0, 0);
        changeOf(0, of(1, 2, 1, 3, 2, 2), 0, 1, 0, 2, 1, 1);
    }

    private void changeTo() {
        sentence(32, "what it has to be comes to another ROW (anew; of alike ones that which TAKES least, then the first).");
        anew("r9900k51k11k12k11");
        tie(0, 2);
        changeOf(1, of(1, 1), 0, 1);
        changeOf(0, of(1, 2, 1), 0, 2, 1);
        changeOf(2, of(2, 1), 2, 1);
        anew("r9900b11b12y011");
        changeOf(0, of(1), 0);
        anew("r9900b12b11y011");
        changeOf(0, of(1), 0, 1);
        full();
        row(0, 2, 4, 3, 1);
        told("at(0, 0)", 1, 2);
        due("change(0, 5)", 0);
        dueRow(5, 1, 5, 2, 0);
        due("change(0, 2)", 0);
        dueRow(2, 1, 5, 2, 0);
        due("change(0, 0)", 0);
        dueRow(0, 1, 5, 2, 0);
        due("asked()", 2);
        dueRope(1, 5, 2, 0);
    }

    private void noChange(int... message) {
        row(0, message);
        row(1, 8);
        changesNothing("change(0, 1)", NONE);
        changesNothing("change(0, 2)", NONE);
        changesNothing("change(0, 0)", NONE);
        dueRow(1, 8);
        dueMissing(2);
    }

    private void changeNone() {
        sentence(32, "NONE: it can't.");
        anew("r9900k11w12k13");
        noChange(7);
        tie(0, 1, 0);
        noChange(1);
        noChange();
        noChange(1, 3);
        noChange(2, 1);
        due("length(1)", 99);
        noChange(1, 2, 1);
        noChange(1, 2);
        anew("r0900w41k31");
        tie(0);
        noChange(1, 1, 1);
        changeOf(0, of(1, 1), 0, 1);
        anew("r9900k10y007");
        tie(times(20, 0));
        noChange(7, 7, 7, 7, 7, 7, 7, 7, 7, 7, 0);
        changeOf(0, times(10, 7), times(20, 0));
        anew();
        noChange(0);
        changeOf(0, of());

        sentence(32, "BAD; NOTHING; SIZE; UNLIKE.");
        messageRefusals("change(%, 0)");
        badTo("change");
    }

    private void bothOf(String craft, int[] forward, int[] backward, int want, int... knots) {
        anew(craft);
        row(0, forward);
        row(1, backward);
        due("both(0, 1, 2)", want);
        dueRow(2, knots);
        dueRow(0, forward);
        dueRow(1, backward);
    }

    private void noBoth(String craft, int[] forward, int... backward) {
        anew(craft);
        row(0, forward);
        row(1, backward);
        row(2, 8);
        changesNothing("both(0, 1, 2)", NONE);
        changesNothing("both(0, 1, 3)", NONE);
        changesNothing("both(0, 1, 0)", NONE);
        changesNothing("both(0, 1, 1)", NONE);
        dueRow(2, 8);
        dueMissing(3);
    }

    private void both() {
        sentence(33, "Two who read one ROPE, the one from its beginning, the other one from its end "
            + "(KNOTS the other way, by PAIRS that way):");
        bothOf("r9900k11k12", of(1, 2), of(2, 1), 2, 0, 1);
        bothOf("r9900k11k12y013", of(3), of(2, 1), 2, 0, 1);
        bothOf("r9900k11k12y013", of(2, 1), of(3), 2, 1, 0);
        bothOf("r9900k11k12y013y104", of(3), of(4), 2, 0, 1);
        bothOf("r9900k11k12y013y104", of(4), of(3), 2, 1, 0);
        // Three alike are a PAIR and one, from either end.
        bothOf(TWO, of(2, 0), of(2, 0), 3, 0, 0, 0);
        noBoth(TWO, of(2, 0), 0, 2);
        noBoth("r9900k11k12", of(1, 2), 1, 2);
        noBoth("r9900s11k12y013", of(3), 2, 1);
    }

    private void bothLeast() {
        sentence(33, "the least that a RIGHT ROPE of 5 KNOTS at most TAKES that READS as two ROWS tell;");
        bothOf("r9900k11", of(), of(), 0);
        bothOf("r9900k11k12", of(1, 1, 1, 1, 2), of(2, 1, 1, 1, 1), 5, 0, 0, 0, 0, 1);
        noBoth("r9900k11k12", of(1, 1, 1, 1, 1, 1), 1, 1, 1, 1, 1, 1);
        noBoth(TWO, of(2, 2, 2), 2, 2, 2);
        bothOf("r9900k31k21k21", of(1, 1), of(1, 1), 4, 1, 1);
        // RIGHT from its beginning: a LAW is not read backward, a HITCH is the last one there.
        bothOf("r9900k11k12x10", of(1, 2), of(2, 1), 2, 0, 1);
        noBoth("r9900k11k12x01", of(1, 2), 2, 1);
        bothOf("r9900h11k12", of(1, 2), of(2, 1), 3, 0, 1);
        bothOf("r9900h11k12", of(2, 1), of(1, 2), 4, 1, 0);
        bothOf("r0804k21k21", of(1, 1), of(1, 1), 4, 0, 0);
        bothOf("r0703b21", of(1, 1, 1), of(1, 1, 1), 4, 0, 0, 0);
        noBoth("r0704k21k21", of(1, 1), 1, 1);

        sentence(33, "it comes to a third ROW (anew; the first of alike ones).");
        bothOf("r9900k51k11k11", of(1, 1), of(1, 1), 2, 1, 1);
        bothOf("r9900b12b11y011y101", of(1), of(1), 1, 0, 1);
        bothOf("r9900b11b12y011y101", of(1), of(1), 1, 0);
        full();
        row(0, 4, 1);
        row(1, 1, 4);
        due("both(0, 1, 5)", 4);
        dueRow(5, 5, 0);
        due("both(0, 1, 2)", 4);
        dueRow(2, 5, 0);
        due("both(0, 1, 0)", 4);
        dueRow(0, 5, 0);
        row(0, 4);
        due("both(0, 0, 0)", 2);
        dueRow(0, 5);

        sentence(33, "NONE: none.");
        noBoth("r9900k11", of(1), 2);
        noBoth("r9900k11", of(2), 1);
        noBoth("r9900k11", of(1, 1), 1);
        noBoth("r9900k11", of(), 1);
        noBoth("r9900k11", of(1));
        noBoth("r9900", of(0), 0);
        anew();
        row(0, 0);
        changesNothing("both(0, 0, 1)", NONE);
        row(0);
        due("both(0, 0, 1)", 0);
        dueRow(1);
    }

    private void bothRefused() {
        sentence(33, "BAD; NOTHING: either; SIZE: either; UNLIKE: either.");
        messageRefusals("both(%, 0, 0)");
        messageRefusals("both(0, %, 0)");
        messageRefusals("both(%, %, 0)");
        full();
        refused("both(0, 0, -1)", BAD);
        refused("both(0, 0, 6)", BAD);
        refused("both(5, 3, 6)", BAD);
        refusedBy("both(5, 2, 0)", NOTHING);
        refusedBy("both(2, 5, 0)", NOTHING);
        refusedBy("both(3, 5, 0)", NOTHING);
        refusedBy("both(2, 3, 0)", SIZE);
        refusedBy("both(3, 2, 0)", SIZE);
        refusedBy("both(0, 5, 5)", NOTHING);
        dueMissing(5);
    }
}

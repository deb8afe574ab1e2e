/** What the Terms say of what KNOTS TAKE and READ and of THE ROPE, and promises 16 to 28. */
final class RopeSentences extends SentenceBench {
    /** Twenty KNOTS of it can be tied, and 79 are LEFT then; the second one not behind itself. */
    private static final String LONG = "r9900k11k21x11";

    @Override
    void tryAll() {
        kinds();
        measures();
        reading();
        theRope();
        tie();
        tieFull();
        untie();
        ropeAndLeft();
        readsAndLies();
        keepAndOn();
        judge();
        takesAndSays();
        ropes();
        nth();
    }

    private void takes(int want, int... knots) {
        row(0, knots);
        changesNothing("takes(0)", want);
    }

    private void reads(int[] knots, int... signs) {
        row(0, knots);
        due("says(0, 1)", signs.length);
        dueRow(1, signs);
    }

    private void kinds() {
        sentence(TERMS, "KINDS of KNOTS: 0 KNOT, 1 LOOP (a KNOT), 2 BEND (a KNOT), 3 HITCH (a LOOP), 4 SHEEP (a BEND), "
            + "5 WILL (a KNOT).");
        anew(ALL);
        for (int k = 0; k < 6; k++) {
            told("knot(" + k + ", 0)", 1, k);
        }
        due("mark(3, 1)", 3);
        due("mark(4, 2)", 0);
        refusedBy("mark(1, 3)", UNLIKE);
        refusedBy("mark(2, 4)", UNLIKE);
        due("count(2)", 2);
        due("count(3)", 2);
        row(0, 0, 1, 2, 3, 4, 5);
        due("judge(0)", 6);

        sentence(TERMS, "A ROW of KNOTS (as a ROPE, from its beginning) has numbers of KNOTS, 20 at most.");
        anew(LONG);
        takes(20, times(20, 0));
        row(0, times(21, 0));
        refusedBy("takes(0)", SIZE);
        takes(2, 1);
        row(0, 2);
        refusedBy("takes(0)", UNLIKE);
        row(0, -1);
        refusedBy("takes(0)", UNLIKE);
        takes(0);
    }

    private void measures() {
        sentence(TERMS, "A KNOT TAKES its SIZE; a LOOP, a HITCH twice that;");
        anew("r9900k11o21b31h41s51w61");
        int[] alone = {1, 4, 3, 8 + 1, 5, 6};
        for (int k = 0; k < 6; k++) {
            takes(alone[k], k);
        }
        takes(1 + 4 + 3 + 8 + 5 + 6, 0, 1, 2, 3, 4, 5);
        takes(1 + 4 + 4, 0, 1, 1);
        takes(8 + 8 + 6, 3, 3, 5);

        sentence(TERMS, "a BEND, a SHEEP just behind a BEND or SHEEP 1 less;");
        anew("r9900k11o21b31h41s11w61");
        takes(3 + 2, 2, 2);
        takes(3 + 0, 2, 4);
        takes(1 + 2, 4, 2);
        takes(1 + 0, 4, 4);
        takes(3 + 2 + 2 + 0 + 0, 2, 2, 2, 4, 4);
        takes(3 + 1 + 3, 2, 0, 2);
        takes(1 + 3, 0, 2);
        takes(4 + 3, 1, 2);
        takes(8 + 3, 3, 2);
        takes(6 + 1, 5, 4);
        takes(3 + 1, 2, 0);
        takes(3 + 4, 2, 1);
        takes(3 + 8 + 1, 2, 3);
        takes(3 + 6, 2, 5);
        takes(3 + 19 * 2, times(20, 2));

        sentence(TERMS, "the last one of a ROPE, if it is a HITCH, 1 more.");
        anew("r9900k11o21b31h41s11w61");
        takes(9, 3);
        takes(8 + 9, 3, 3);
        takes(8 + 1, 3, 0);
        takes(1 + 9, 0, 3);
        takes(1 + 4, 0, 1);
        takes(8 + 4, 3, 1);
        takes(20 * 8 + 1, times(20, 3));

        sentence(TERMS, "What is LEFT is the LENGTH less what all TAKE.");
        anew("r1000h21k31b21");
        told("left()", 0, 10);
        due("tie(0)", 5);
        due("tie(1)", 3);
        due("tie(2)", 1);
        due("tie(2)", 0);
        told("left()", 4, 0);
        due("length(1)", 10);
        told("left()", 4, -9);
        due("length(99)", 1);
        told("left()", 4, 89);

        sentence(TERMS, "A ROPE is RIGHT, if no LAW is against it, and no less than the GIRTH is LEFT.");
        anew("r1205k10k21x10");
        due("tie(1)", 10);
        refused("tie(0)", STATE);
        due("tie(1)", 8);
        due("tie(1)", 6);
        refused("tie(1)", STATE);
        due("untie(1)", 2);
        due("length(9)", 12);
        refused("tie(1)", STATE);
        due("length(11)", 9);
        due("tie(1)", 5);
        anew("r0502k31");
        due("tie(0)", 2);
        anew("r0503k31");
        refused("tie(0)", STATE);
        many("ropes(1)", 0);
    }

    private void reading() {
        sentence(TERMS, "To READ: from the beginning, if the next two are a PAIR (the first such one of alike ones; "
            + "none that has a SHEEP), that one's SIGN, both being read then; else the next one's SIGN.");
        anew("r9900k10k21s12y009y008y017y205y216y024");
        reads(of());
        reads(of(0), 0);
        reads(of(0, 0), 9);
        reads(of(0, 0, 0), 9, 0);
        reads(of(0, 0, 0, 0), 9, 9);
        reads(of(0, 0, 1), 9, 1);
        reads(of(0, 1, 0), 7, 0);
        reads(of(1, 0), 1, 0);
        reads(of(1, 0, 1), 1, 7);
        reads(of(1, 1), 1, 1);
        reads(of(2, 0), 2, 0);
        reads(of(0, 2), 0, 2);
        reads(of(2, 1), 2, 1);
        reads(of(0, 2, 0), 0, 2, 0);
        reads(of(2, 0, 0, 1), 2, 9, 1);
        reads(times(20, 0), times(10, 9));
        reads(times(20, 1), times(20, 1));
        due("sign(0, 3)", 0);
        reads(of(0, 0, 0), 9, 3);
        anew("r9900k10k10x00y007y018");
        reads(of(0, 0), 7);
        anew("r9900w11h12o13b14y015y126y237");
        reads(of(0, 1, 2, 3), 5, 7);
        reads(of(1, 2, 3, 0), 6, 4, 1);
    }

    private void theRope() {
        sentence(TERMS, "======== 2 THE ROPE (without KNOTS at first; anew by a CRAFT) is tied KNOT by KNOT at its end, "
            + "untied from its end; a WILL is never untied.");
        dueRope();
        anew(ALL);
        dueRope();
        tie(4, 2, 0);
        dueRope(4, 2, 0);
        due("untie(1)", 2);
        dueRope(4, 2);
        tie(5);
        refused("untie(1)", STATE);
        tie(3);
        due("untie(1)", 3);
        refused("untie(2)", STATE);
        dueRope(4, 2, 5);
        due("craft(0)", 6);
        dueRope();

        sentence(TERMS, "A MESSAGE is a ROW of SIGNS (0 .. 9; 12 at most).");
        anew("r9900k10k19");
        row(0, 0, 9, 0, 9, 0, 9, 0, 9, 0, 9, 0, 9);
        due("shortest(0, 1)", 12);
        dueRow(1, 0, 1, 0, 1, 0, 1, 0, 1, 0, 1, 0, 1);
        row(0, 0, 9, 0, 9, 0, 9, 0, 9, 0, 9, 0, 9, 0);
        refusedBy("shortest(0, 1)", SIZE);
        row(0, 0, 10);
        refusedBy("shortest(0, 1)", UNLIKE);
        row(0, -1);
        refusedBy("shortest(0, 1)", UNLIKE);
        row(0);
        due("shortest(0, 1)", 0);

        sentence(TERMS, "A ROPE SAYS it, if it is RIGHT, and READS so.");
        anew("r1004k31k33x01y112");
        row(0, 1, 1);
        many("ways(0)", 1);
        row(0, 1, 3);
        many("ways(0)", 0);
        row(0, 3, 1);
        many("ways(0)", 1);
        row(0, 2);
        many("ways(0)", 1);
        row(0, 3, 3);
        many("ways(0)", 0);
        row(0, 1, 1, 1);
        many("ways(0)", 0);

        sentence(TERMS, "ROPES go by their first KNOTS, then the second ones, ..; one that is the beginning of another one "
            + "comes first.");
        anew("r9900b12b11y011");
        row(0, 1);
        due("shortest(0, 1)", 1);
        dueRow(1, 0, 1);
        anew("r9900b11b12y011");
        row(0, 1);
        due("shortest(0, 1)", 1);
        dueRow(1, 0);
        anew(TWO);
        int[][] inOrder = {of(0, 0, 0), of(0, 0, 1), of(0, 1, 0), of(0, 1, 1), of(1, 0, 0)};
        for (int i = 0; i < inOrder.length; i++) {
            call("nth(3, " + i + ", 0)");
            dueRow(0, inOrder[i]);
        }
    }

    private void tie() {
        sentence(16, "A KNOT is tied at THE ROPE's end: what is LEFT.");
        anew(ALL);
        due("tie(3)", 33);
        due("tie(4)", 33);
        due("tie(4)", 33);
        due("tie(2)", 32);
        dueRope(3, 4, 4, 2);
        due("asked()", 0);

        sentence(16, "BAD;");
        full();
        refused("tie(-1)", BAD);
        refused("tie(6)", BAD);
        refused("tie(" + LEAST + ")", BAD);
        refused("tie(" + MOST + ")", BAD);
        anew("r9900k11");
        refused("tie(1)", BAD);
        anew("r9900");
        refused("tie(0)", BAD);
        anew();
        refused("tie(0)", BAD);

        sentence(16, "STATE: it would not be RIGHT.");
        full();
        refused("tie(0)", STATE);
        due("untie(1)", 3);
        due("tie(1)", 22);
        refused("tie(3)", STATE);
        anew(TWO);
        tie(1, 1, 0, 0);
        refused("tie(1)", STATE);
        due("tie(0)", 5);
        refused("tie(0)", STATE);
        due("length(6)", 12);
        refused("tie(0)", STATE);
        anew("r0700h30");
        due("tie(0)", 0);
        anew("r0600h30");
        refused("tie(0)", STATE);
        anew("r1300h30");
        due("tie(0)", 6);
        due("tie(0)", 0);
        anew("r1200h30");
        due("tie(0)", 5);
        refused("tie(0)", STATE);
        anew("r0100b11");
        due("tie(0)", 0);
        due("tie(0)", 0);
        due("tie(0)", 0);
    }

    private void tieFull() {
        sentence(16, "FULL: 20 KNOTS;");
        anew(LONG);
        for (int i = 1; i <= 20; i++) {
            due("tie(0)", 99 - i);
        }
        refused("tie(0)", FULL);
        refused("tie(1)", FULL);
        due("count(1)", 20);
        due("untie(1)", 19);
        due("tie(0)", 79);
        refused("tie(0)", FULL);

        sentence(16, "(FULL last.)");
        anew(LONG);
        tie(times(19, 0));
        tie(1);
        refused("tie(1)", STATE);
        refused("tie(0)", FULL);
        refused("tie(2)", BAD);
        refused("tie(-1)", BAD);
        due("length(21)", 99);
        refused("tie(0)", STATE);
        due("length(22)", 21);
        refused("tie(0)", FULL);
    }

    private void untie() {
        sentence(17, "n KNOTS (0 .. 20) are untied from THE ROPE's end: how many are left.");
        anew(LONG);
        due("untie(0)", 0);
        tie(times(20, 0));
        due("untie(0)", 20);
        due("untie(20)", 0);
        dueRope();
        tie(0, 1, 0);
        due("untie(2)", 1);
        dueRope(0);
        told("left()", 1, 98);
        // Only what is tied now is untied: a WILL that was tied once, and is no more, does not matter.
        full();
        due("on(0)", 3);
        tie(5);
        due("on(0)", 3);
        due("untie(1)", 2);
        anew();
        due("untie(0)", 0);

        sentence(17, "BAD: also more than there are;");
        full();
        refused("untie(5)", BAD);
        refused("untie(-1)", BAD);
        refused("untie(21)", BAD);
        refused("untie(" + MOST + ")", BAD);
        refused("untie(" + LEAST + ")", BAD);
        anew(LONG);
        refused("untie(1)", BAD);
        tie(times(20, 0));
        refused("untie(21)", BAD);
        anew();
        refused("untie(1)", BAD);

        sentence(17, "STATE: one is a WILL.");
        full();
        refused("untie(3)", STATE);
        refused("untie(4)", STATE);
        due("untie(2)", 2);
        refused("untie(1)", STATE);
        refused("untie(2)", STATE);
        due("untie(0)", 2);
        // More than there are is BAD, though one is a WILL.
        refused("untie(3)", BAD);
    }

    private void ropeAndLeft() {
        sentence(18, "KNOT number i of THE ROPE (0, 1, ..).");
        full();
        changesNothing("rope(0)", 1);
        changesNothing("rope(1)", 5);
        changesNothing("rope(3)", 0);
        anew(LONG);
        tie(times(19, 0));
        tie(1);
        due("rope(19)", 1);
        due("rope(18)", 0);

        sentence(18, "BAD: below 0;");
        full();
        refused("rope(-1)", BAD);
        refused("rope(" + LEAST + ")", BAD);

        sentence(18, "BEYOND.");
        full();
        refusedBy("rope(4)", BEYOND);
        refusedBy("rope(20)", BEYOND);
        refusedBy("rope(" + MOST + ")", BEYOND);
        due("untie(1)", 3);
        refusedBy("rope(3)", BEYOND);
        anew();
        refusedBy("rope(0)", BEYOND);

        sentence(19, "What is LEFT of THE ROPE, told by asked() (perhaps below 0, by length()): how many KNOTS.");
        told("left()", 0, 0);
        anew(TWO);
        told("left()", 0, 12);
        tie(1, 1, 1);
        told("left()", 3, 6);
        due("length(6)", 12);
        told("left()", 3, 0);
        due("length(5)", 6);
        told("left()", 3, -1);
        onlyTells("left()", 3);
        anew("r9900h91");
        tie(0, 0, 0, 0, 0);
        due("length(1)", 99);
        told("left()", 5, 1 - 91);
    }

    private void readsAndLies() {
        sentence(20, "What THE ROPE READS comes to a ROW (anew): how many SIGNS.");
        full();
        due("reads(5)", 4);
        dueRow(5, 2, 4, 3, 1);
        due("reads(2)", 4);
        dueRow(2, 2, 4, 3, 1);
        tie(1);
        due("reads(4)", 4);
        dueRow(4, 2, 4, 3, 4);
        due("count(6)", 6);
        dueRope(1, 5, 2, 0, 1);
        anew();
        due("reads(0)", 0);
        dueRow(0);
        row(1, 1, 2);
        due("reads(1)", 0);
        dueRow(1);

        sentence(20, "BAD.");
        full();
        refused("reads(-1)", BAD);
        refused("reads(6)", BAD);

        sentence(21, "THE ROPE's KNOTS come to a ROW (anew): how many.");
        full();
        due("lies(5)", 4);
        dueRow(5, 1, 5, 2, 0);
        due("lies(2)", 4);
        dueRow(2, 1, 5, 2, 0);
        due("lay(5, 0, 3)", 1);
        dueRope(1, 5, 2, 0);
        due("count(6)", 6);
        anew();
        due("lies(0)", 0);
        dueRow(0);
        anew(LONG);
        tie(times(20, 0));
        due("lies(0)", 20);
        dueRow(0, times(20, 0));

        sentence(21, "BAD.");
        full();
        refused("lies(-1)", BAD);
        refused("lies(6)", BAD);
    }

    private void keepAndOn() {
        sentence(22, "THE ROPE and the LENGTH are kept in a place (0 .. 2): how many KNOTS.");
        anew(TWO);
        due("keep(2)", 0);
        due("count(8)", 1);
        tie(0, 1);
        due("keep(0)", 2);
        due("length(20)", 12);
        tie(1);
        due("keep(1)", 3);
        due("keep(2)", 3);
        due("count(8)", 3);
        due("untie(3)", 0);
        due("length(6)", 20);
        due("on(0)", 2);
        told("left()", 2, 9);
        dueRope(0, 1);
        due("on(1)", 3);
        told("left()", 3, 15);
        due("on(2)", 3);
        dueRope(0, 1, 1);

        sentence(22, "BAD;");
        full();
        refused("keep(-1)", BAD);
        refused("keep(3)", BAD);
        anew();
        refused("keep(-1)", BAD);
        refused("keep(3)", BAD);

        sentence(22, "STATE: no KNOTS of a CRAFT.");
        refused("keep(0)", STATE);
        refused("keep(2)", STATE);
        anew("r2010");
        refused("keep(1)", STATE);
        anew("r2010k11");
        due("keep(1)", 0);

        sentence(23, "THE ROPE and the LENGTH are as they were kept (RIGHT or not): how many KNOTS.");
        anew(TWO);
        tie(1, 1, 1);
        due("length(9)", 12);
        due("keep(1)", 3);
        due("length(99)", 9);
        due("untie(3)", 0);
        tie(0);
        due("keep(0)", 1);
        due("on(1)", 3);
        dueRope(1, 1, 1);
        told("left()", 3, 3);
        refused("tie(0)", STATE);
        due("length(99)", 9);
        tie(0);
        due("on(1)", 3);
        dueRope(1, 1, 1);
        told("left()", 3, 3);
        due("on(0)", 1);
        told("left()", 1, 98);
        due("sign(0, 7)", 0);
        due("on(1)", 3);
        told("knot(0, 2)", 1, 7);
        due("count(8)", 2);

        sentence(23, "BAD; NOTHING.");
        full();
        refused("on(-1)", BAD);
        refused("on(3)", BAD);
        refusedBy("on(1)", NOTHING);
        due("craft(0)", 6);
        refusedBy("on(0)", NOTHING);
        anew();
        refused("on(3)", BAD);
        refusedBy("on(0)", NOTHING);
    }

    private void judged(int place, int why, int... knots) {
        row(0, knots);
        askedOtherwise();
        told("judge(0)", place, why);
        onlyTells("judge(0)", place);
    }

    private void judge() {
        sentence(24, "A ROW of KNOTS judged: the first place at which it can't be tied (as many as there are: none);");
        anew("r1003h30k10k10x01x10");
        judged(0, 0);
        judged(1, 0, 0);
        judged(2, 0, 2, 2);
        judged(1, 1, 0, 1);
        judged(2, 1, 1, 1, 0, 1);
        judged(2, 2, 2, 2, 0, 1, 0);
        judged(3, 1, 2, 2, 1, 0, 1);
        judged(7, 2, 2, 2, 2, 2, 2, 2, 2, 2, 2);
        judged(7, 0, 2, 2, 2, 2, 2, 2, 2);
        anew(LONG);
        judged(20, 0, times(20, 0));
        due("length(19)", 99);
        judged(19, 2, times(20, 0));

        sentence(24, "why by asked() (0 nothing, 1 a LAW, 2 less than the GIRTH would be LEFT; 1 first).");
        anew("r1003h30k10k10x01x10");
        judged(2, 0, 2, 1);
        judged(2, 1, 2, 1, 0);
        judged(1, 2, 0, 0);
        anew("r1003h30k10k30x01x02");
        judged(1, 1, 0, 2);
        judged(1, 1, 0, 1);
        judged(1, 2, 2, 0, 1);
        anew("r0903k30k30x01");
        judged(2, 2, 1, 0, 0, 1);
        judged(1, 1, 0, 1, 1);
        anew("r0503k30");
        judged(0, 2, 0);

        sentence(24, "(Each place as if the ROPE ended there.)");
        anew("r1003h30k10");
        judged(1, 2, 1, 0, 1);
        judged(2, 0, 0, 1);
        anew("r1103h30k10");
        judged(3, 0, 1, 0, 1);

        sentence(24, "BAD; NOTHING; SIZE: more than 20; UNLIKE: a number of no KNOT.");
        knotRefusals("judge(%)", 20);
    }

    private void takesAndSays() {
        sentence(25, "What a ROW of KNOTS TAKES, as it lies.");
        anew(ALL);
        takes(0);
        takes(2 + 2, 0, 0);
        takes(2 + 7, 1, 3);
        takes(7 * 6 + 7, 3, 3, 3, 3, 3, 3, 3, 3);
        takes(2 + 0 + 1 + 2 + 2, 2, 4, 2, 0, 2);
        due("upper()", 0);

        sentence(25, "BAD; NOTHING; SIZE; UNLIKE.");
        knotRefusals("takes(%)", 20);

        sentence(26, "What a ROW of KNOTS READS comes to another ROW (anew; perhaps the same): how many SIGNS.");
        full();
        row(0, 0, 0, 0, 1, 4, 2);
        due("says(0, 5)", 4);
        dueRow(5, 3, 4, 2, 3);
        dueRow(0, 0, 0, 0, 1, 4, 2);
        due("says(0, 2)", 4);
        dueRow(2, 3, 4, 2, 3);
        due("says(0, 0)", 4);
        dueRow(0, 3, 4, 2, 3);
        due("says(4, 5)", 0);
        dueRow(5);
        due("says(4, 4)", 0);
        dueRow(4);
        dueRope(1, 5, 2, 0);

        sentence(26, "BAD; NOTHING; SIZE; UNLIKE.");
        knotRefusals("says(%, 0)", 20);
        full();
        refused("says(0, -1)", BAD);
        refused("says(0, 6)", BAD);
        refused("says(5, 6)", BAD);
        refused("says(2, -1)", BAD);
        refusedBy("says(5, 5)", NOTHING);
        dueMissing(5);
    }

    private void ropes() {
        sentence(27, "How many RIGHT ROPES of n (0 .. 20) KNOTS there are, told by upper(): 1.");
        anew(TWO);
        long[] due = {1, 2, 4, 8, 15, 16, 7, 1, 0};
        for (int n = 0; n < due.length; n++) {
            many("ropes(" + n + ")", due[n]);
        }
        many("ropes(20)", 0);
        due("length(8)", 12);
        many("ropes(3)", 1);
        many("ropes(4)", 0);
        due("length(12)", 8);
        many("ropes(4)", 15);
        onlyTells("ropes(5)", 1);
        tie(1, 1);
        many("ropes(4)", 15);
        anew("r9900b11b11b11b11b11b11");
        many("ropes(20)", 3656158440062976L);
        anew("r0600h30k10");
        many("ropes(1)", 1);
        due("length(7)", 6);
        many("ropes(1)", 2);
        many("ropes(2)", 2);
        anew("r9900k11k11x01x10");
        many("ropes(20)", 2);
        anew("r0202k11");
        many("ropes(0)", 1);
        many("ropes(1)", 0);
        anew();
        many("ropes(0)", 1);
        many("ropes(1)", 0);
        many("ropes(20)", 0);

        sentence(27, "BAD.");
        full();
        refused("ropes(-1)", BAD);
        refused("ropes(21)", BAD);
        refused("ropes(" + LEAST + ")", BAD);
        refused("ropes(" + MOST + ")", BAD);
    }

    /** All RIGHT ROPES of n KNOTS by a CRAFT without LAWS; shapes: 1 is a HITCH, 2 a BEND or SHEEP, 0 neither. */
    private void nthInOrder(String craft, int[] shapes, int n) {
        anew(craft);
        int room = Integer.parseInt(craft.substring(1, 3)) - Integer.parseInt(craft.substring(3, 5));
        int all = 1;
        for (int p = 0; p < n; p++) {
            all *= shapes.length;
        }
        int i = 0;
        for (int number = 0; number < all; number++) {
            int[] rope = new int[n];
            int rest = number;
            for (int p = n - 1; p >= 0; p--) {
                rope[p] = rest % shapes.length;
                rest /= shapes.length;
            }
            int taken = takenBy(craft, shapes, rope);
            if (taken <= room) {
                if (i % 50 == 0) {
                    anew(craft);
                }
                due("nth(" + n + ", " + i + ", 0)", taken);
                dueRow(0, rope);
                i++;
            }
        }
        refusedBy("nth(" + n + ", " + i + ", 0)", NOUGHT);
        many("ropes(" + n + ")", i);
    }

    private static int takenBy(String craft, int[] shapes, int[] rope) {
        int taken = 0;
        for (int p = 0; p < rope.length; p++) {
            int size = craft.charAt(6 + 3 * rope[p]) - '0';
            int shape = shapes[rope[p]];
            boolean last = p == rope.length - 1;
            boolean closer = shape == 2 && p > 0 && shapes[rope[p - 1]] == 2;
            taken += shape == 1 ? 2 * size + (last ? 1 : 0) : closer ? size - 1 : size;
        }
        return taken;
    }

    private void nth() {
        sentence(28, "RIGHT ROPE number i (0, 1, ..; by KNOTS) of n (0 .. 20) KNOTS comes to a ROW (anew): what it TAKES.");
        anew(TWO);
        due("nth(0, 0, 5)", 0);
        dueRow(5);
        int[][] four = {of(0, 0, 0, 0), of(0, 0, 0, 1), of(0, 0, 1, 0), of(0, 0, 1, 1), of(0, 1, 0, 0), of(0, 1, 0, 1),
            of(0, 1, 1, 0), of(0, 1, 1, 1), of(1, 0, 0, 0), of(1, 0, 0, 1), of(1, 0, 1, 0), of(1, 0, 1, 1), of(1, 1, 0, 0),
            of(1, 1, 0, 1), of(1, 1, 1, 0)};
        call("row(2, 40)");
        for (int i = 0; i < four.length; i++) {
            int taken = 4 + four[i][0] + four[i][1] + four[i][2] + four[i][3];
            due("nth(4, " + i + ", 2)", taken);
            dueRow(2, four[i]);
        }
        due("upper()", 0);
        due("asked()", 0);
        for (int n = 4; n <= 8; n++) {
            nthInOrder("r1205k10k21", of(0, 0), n);
        }
        for (int n = 1; n <= 4; n++) {
            nthInOrder("r0702k10b21s11h11", of(0, 2, 2, 1), n);
            nthInOrder("r0600h10k20h20k10k10b10", of(1, 0, 1, 0, 0, 2), n);
        }
        anew("r4000h11k12x00");
        due("nth(2, 0, 0)", 3);
        dueRow(0, 0, 1);
        due("nth(2, 1, 0)", 4);
        dueRow(0, 1, 0);
        due("nth(2, 2, 0)", 2);
        dueRow(0, 1, 1);
        anew("r9900k11k11k11k11k11k11");
        due("nth(20, " + MOST + ", 0)", 20);
        int[] rope = new int[20];
        int rest = MOST;
        for (int p = 19; p >= 0; p--) {
            rope[p] = rest % 6;
            rest /= 6;
        }
        dueRow(0, rope);
        anew();
        due("nth(0, 0, 0)", 0);
        dueRow(0);

        sentence(28, "BAD: also i below 0;");
        full();
        refused("nth(2, -1, 0)", BAD);
        refused("nth(2, " + LEAST + ", 0)", BAD);
        refused("nth(-1, 0, 0)", BAD);
        refused("nth(21, 0, 0)", BAD);
        refused("nth(2, 0, -1)", BAD);
        refused("nth(2, 0, 6)", BAD);
        refused("nth(0, 1, 6)", BAD);
        refused("nth(0, -1, 0)", BAD);

        sentence(28, "NOUGHT: there are not so many.");
        full();
        refusedBy("nth(0, 1, 0)", NOUGHT);
        refusedBy("nth(2, 34, 0)", NOUGHT);
        refusedBy("nth(2, 34, 5)", NOUGHT);
        dueMissing(5);
        refusedBy("nth(1, " + MOST + ", 4)", NOUGHT);
        due("nth(2, 33, 5)", 4);
        dueRow(5, 5, 5);
        anew();
        refusedBy("nth(1, 0, 0)", NOUGHT);
        refusedBy("nth(20, 0, 0)", NOUGHT);
        dueMissing(0);
    }
}

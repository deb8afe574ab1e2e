/** Promises 1 to 9: a new object, ROWS, TEXTS. */
final class RowSentences extends SentenceBench {
    @Override
    void tryAll() {
        newObject();
        row();
        lay();
        at();
        tear();
        copy();
        copyRefused();
        mean();
        text();
        put();
    }

    private void newObject() {
        sentence(1, "No ROWS, TEXTS, KNOTS; LENGTH, GIRTH 0.");
        for (int r = 0; r < 6; r++) {
            dueMissing(r);
        }
        for (int t = 0; t < 4; t++) {
            refusedBy("fault(" + t + ")", NOTHING);
        }
        for (int k = 0; k < 3; k++) {
            refusedBy("on(" + k + ")", NOTHING);
        }
        for (int what = 0; what < 9; what++) {
            due("count(" + what + ")", 0);
        }
        refused("knot(0, 0)", BAD);
        told("left()", 0, 0);
        anew();
        row(0, 0);
        told("packs(0)", 1, 1);
        row(0, 1);
        changesNothing("packs(0)", NONE);
        anew();
        due("digest()", digestOfNothing());
        due("asked()", 0);
        due("upper()", 0);
        due("finding()", 0);
        for (int f = 1; f <= 5; f++) {
            due("findings(" + f + ")", 0);
        }
    }

    private static long digestOfNothing() {
        long h = 17;
        for (int noughts = 0; noughts < 9 + 2; noughts++) {
            h = 31 * h;
        }
        for (int missing = 0; missing < 3 + 6 + 4; missing++) {
            h = 31 * h - 1;
        }
        return h;
    }

    private void row() {
        sentence(2, "A ROW is there with n ints 0: n.");
        due("row(0, 0)", 0);
        dueRow(0);
        due("row(5, 40)", 40);
        dueRow(5, new int[40]);
        due("count(6)", 2);
        for (int i = 0; i < 40; i++) {
            call("lay(5, " + i + ", 7)");
        }
        due("row(5, 2)", 2);
        dueRow(5, 0, 0);
        due("row(5, 40)", 40);
        dueRow(5, new int[40]);
        due("row(5, 1)", 1);
        due("row(5, 0)", 0);
        dueRow(5);

        sentence(2, "BAD: also n above 40;");
        full();
        refused("row(-1, 1)", BAD);
        refused("row(6, 1)", BAD);
        refused("row(0, 41)", BAD);
        refused("row(0, " + MOST + ")", BAD);
        refused("row(" + LEAST + ", 1)", BAD);
        refused("row(5, 41)", BAD);
        refused("row(6, -1)", BAD);
        refused("row(-1, -1)", BAD);

        sentence(2, "SIZE: below 0.");
        full();
        refusedBy("row(0, -1)", SIZE);
        refusedBy("row(0, " + LEAST + ")", SIZE);
        refusedBy("row(5, -1)", SIZE);
        dueMissing(5);
    }

    private void lay() {
        sentence(3, "Place i of a ROW is v: what it was, told by asked(): 1.");
        call("row(3, 40)");
        told("lay(3, 0, " + MOST + ")", 1, 0);
        told("lay(3, 39, " + LEAST + ")", 1, 0);
        told("lay(3, 0, -5)", 1, MOST);
        told("lay(3, 39, 8)", 1, LEAST);
        told("lay(3, 0, -5)", 1, -5);
        int[] due = new int[40];
        due[0] = -5;
        due[39] = 8;
        dueRow(3, due);

        sentence(3, "BAD; NOTHING; BEYOND.");
        full();
        refused("lay(-1, 0, 1)", BAD);
        refused("lay(6, 0, 1)", BAD);
        refused("lay(6, -1, 1)", BAD);
        refusedBy("lay(5, 0, 1)", NOTHING);
        refusedBy("lay(5, -1, 1)", NOTHING);
        refusedBy("lay(5, 40, 1)", NOTHING);
        refusedBy("lay(0, -1, 1)", BEYOND);
        refusedBy("lay(0, 3, 1)", BEYOND);
        refusedBy("lay(0, " + MOST + ", 1)", BEYOND);
        refusedBy("lay(0, " + LEAST + ", 1)", BEYOND);
        refusedBy("lay(4, 0, 1)", BEYOND);
        due("row(2, 40)", 40);
        refusedBy("lay(2, 40, 1)", BEYOND);
        due("row(2, 1)", 1);
        refusedBy("lay(2, 1, 1)", BEYOND);
        due("lay(2, 0, 1)", 1);
    }

    private void at() {
        sentence(4, "Place i of a ROW, told by asked(): 1.");
        call("row(2, 40)");
        told("at(2, 39)", 1, 0);
        call("lay(2, 0, " + LEAST + ")");
        call("lay(2, 39, " + MOST + ")");
        told("at(2, 0)", 1, LEAST);
        told("at(2, 39)", 1, MOST);
        onlyTells("at(2, 1)", 1);

        sentence(4, "BAD; NOTHING; BEYOND.");
        full();
        refused("at(-1, 0)", BAD);
        refused("at(6, 0)", BAD);
        refused("at(6, -1)", BAD);
        refusedBy("at(5, 0)", NOTHING);
        refusedBy("at(5, -1)", NOTHING);
        refusedBy("at(0, -1)", BEYOND);
        refusedBy("at(0, 3)", BEYOND);
        refusedBy("at(0, " + MOST + ")", BEYOND);
        refusedBy("at(0, " + LEAST + ")", BEYOND);
        refusedBy("at(4, 0)", BEYOND);
        call("row(2, 40)");
        refusedBy("at(2, 40)", BEYOND);
    }

    private void tear() {
        sentence(5, "A ROW is missing: 1.");
        row(0, 1, 2);
        row(5, 3);
        due("tear(0)", 1);
        dueMissing(0);
        dueRow(5, 3);
        refusedBy("at(0, 0)", NOTHING);
        due("count(6)", 1);
        due("row(0, 2)", 2);
        dueRow(0, 0, 0);
        due("row(0, 0)", 0);
        due("tear(0)", 1);
        dueMissing(0);
        due("tear(5)", 1);
        due("digest()", digestOfNothing());

        sentence(5, "BAD; NOTHING.");
        full();
        refused("tear(-1)", BAD);
        refused("tear(6)", BAD);
        refusedBy("tear(5)", NOTHING);
        due("tear(0)", 1);
        refusedBy("tear(0)", NOTHING);
    }

    private void copy() {
        sentence(6, "n places of a ROW, from one on, come to those of another one (perhaps itself) from one on, "
            + "as if taken ahead: 1.");
        row(0, 1, 2, 3, 4, 5);
        row(1, 6, 7, 8);
        due("copy(0, 3, 1, 0, 2)", 1);
        dueRow(1, 4, 5, 8);
        dueRow(0, 1, 2, 3, 4, 5);
        due("copy(1, 0, 0, 2, 3)", 1);
        dueRow(0, 1, 2, 4, 5, 8);
        row(0, 1, 2, 3, 4, 5);
        due("copy(0, 0, 0, 1, 4)", 1);
        dueRow(0, 1, 1, 2, 3, 4);
        row(0, 1, 2, 3, 4, 5);
        due("copy(0, 1, 0, 0, 4)", 1);
        dueRow(0, 2, 3, 4, 5, 5);
        due("copy(0, 0, 0, 0, 5)", 1);
        dueRow(0, 2, 3, 4, 5, 5);
        call("row(2, 40)");
        call("lay(2, 39, 9)");
        call("row(3, 40)");
        due("copy(2, 0, 3, 0, 40)", 1);
        int[] due = new int[40];
        due[39] = 9;
        dueRow(3, due);
        told("lay(3, 39, 1)", 1, 9);
        due("copy(2, 39, 3, 0, 1)", 1);
        due("asked()", 9);
        due("count(6)", 4);
    }

    private void copyRefused() {
        sentence(6, "BAD;");
        full();
        refused("copy(-1, 0, 0, 0, 1)", BAD);
        refused("copy(6, 0, 0, 0, 1)", BAD);
        refused("copy(0, 0, -1, 0, 1)", BAD);
        refused("copy(0, 0, 6, 0, 1)", BAD);

        sentence(6, "SIZE: n below 0;");
        full();
        refusedBy("copy(0, 0, 2, 0, -1)", SIZE);
        refusedBy("copy(0, 0, 2, 0, " + LEAST + ")", SIZE);
        due("copy(0, 0, 2, 0, 0)", 1);

        sentence(6, "NOTHING: either;");
        full();
        refusedBy("copy(5, 0, 0, 0, 0)", NOTHING);
        refusedBy("copy(0, 0, 5, 0, 0)", NOTHING);
        refusedBy("copy(5, 0, 5, 0, 0)", NOTHING);

        sentence(6, "BEYOND: not so many there");
        full();
        refusedBy("copy(0, 0, 2, 0, 4)", BEYOND);
        refusedBy("copy(0, 1, 2, 0, 3)", BEYOND);
        refusedBy("copy(2, 0, 0, 0, 4)", BEYOND);
        refusedBy("copy(2, 0, 0, 1, 3)", BEYOND);
        refusedBy("copy(2, 0, 4, 0, 1)", BEYOND);
        refusedBy("copy(4, 0, 2, 0, 1)", BEYOND);
        refusedBy("copy(0, 1, 2, 0, " + MOST + ")", BEYOND);
        refusedBy("copy(0, " + MOST + ", 2, 0, 1)", BEYOND);
        refusedBy("copy(0, 0, 2, " + MOST + ", 1)", BEYOND);
        refusedBy("copy(0, 3, 2, 0, 1)", BEYOND);
        refusedBy("copy(0, 0, 2, 21, 1)", BEYOND);
        refusedBy("copy(0, -1, 2, 0, 1)", BEYOND);
        refusedBy("copy(0, 0, 2, -1, 1)", BEYOND);
        due("copy(0, 0, 2, 18, 3)", 1);

        sentence(6, "(also with n 0, if i, j is below 0, or above its size).");
        full();
        refusedBy("copy(0, -1, 2, 0, 0)", BEYOND);
        refusedBy("copy(0, 4, 2, 0, 0)", BEYOND);
        refusedBy("copy(0, 0, 2, -1, 0)", BEYOND);
        refusedBy("copy(0, 0, 2, 22, 0)", BEYOND);
        refusedBy("copy(0, 0, 4, 1, 0)", BEYOND);
        refusedBy("copy(0, " + LEAST + ", 0, 0, 0)", BEYOND);
        refusedBy("copy(0, 0, 0, " + MOST + ", 0)", BEYOND);
        changesNothing("copy(0, 3, 2, 21, 0)", 1);
        changesNothing("copy(4, 0, 0, 0, 0)", 1);
        changesNothing("copy(4, 0, 4, 0, 0)", 1);

        sentence(6, "(In this order.)");
        full();
        refused("copy(6, 0, 5, 0, -1)", BAD);
        refused("copy(5, 0, 6, 0, -1)", BAD);
        refusedBy("copy(5, -1, 5, -1, -1)", SIZE);
        refusedBy("copy(0, -1, 0, 0, -1)", SIZE);
        refusedBy("copy(5, -1, 0, -1, 0)", NOTHING);
        refusedBy("copy(0, -1, 5, 0, 0)", NOTHING);
        refusedBy("copy(0, 0, 5, -1, 99)", NOTHING);
    }

    private void mean() {
        sentence(7, "The mean of a ROW's ints, cut, told by asked(): 1.");
        row(0, 1, 2);
        told("mean(0)", 1, 1);
        row(0, -1, -2);
        told("mean(0)", 1, -1);
        row(0, 0, -1);
        told("mean(0)", 1, 0);
        row(0, -9);
        told("mean(0)", 1, -9);
        row(0, MOST, MOST, MOST);
        told("mean(0)", 1, MOST);
        row(0, LEAST, LEAST);
        told("mean(0)", 1, LEAST);
        row(0, LEAST, MOST);
        told("mean(0)", 1, 0);
        call("row(1, 40)");
        call("lay(1, 0, 79)");
        told("mean(1)", 1, 1);
        call("lay(1, 39, 1)");
        told("mean(1)", 1, 2);
        onlyTells("mean(0)", 1);

        sentence(7, "BAD; NOTHING; NOUGHT.");
        full();
        refused("mean(-1)", BAD);
        refused("mean(6)", BAD);
        refusedBy("mean(5)", NOTHING);
        refusedBy("mean(4)", NOUGHT);
    }

    private void text() {
        sentence(8, "A TEXT is there with n blanks: n.");
        due("text(0, 0)", 0);
        due("text(3, 80)", 80);
        due("count(7)", 2);
        for (int i = 0; i < 80; i++) {
            due("put(3, " + i + ", 1)", 1032);
        }
        due("text(3, 1)", 1);
        due("put(3, 0, 1)", 1032);
        due("text(3, 80)", 80);
        for (int i = 0; i < 80; i++) {
            due("put(3, " + i + ", 32)", 1032);
        }
        due("fault(3)", 80);
        due("count(7)", 2);

        sentence(8, "BAD: also n above 80;");
        full();
        refused("text(-1, 1)", BAD);
        refused("text(4, 1)", BAD);
        refused("text(0, 81)", BAD);
        refused("text(3, 81)", BAD);
        refused("text(0, " + MOST + ")", BAD);
        refused("text(4, -1)", BAD);
        refused("text(-1, -1)", BAD);

        sentence(8, "SIZE: below 0.");
        full();
        refusedBy("text(0, -1)", SIZE);
        refusedBy("text(3, -1)", SIZE);
        refusedBy("text(0, " + LEAST + ")", SIZE);
        due("count(7)", 3);
    }

    private void put() {
        sentence(9, "Byte i of a TEXT is v, cut to a byte (-128 .. 127): what it was, and 1000 more.");
        call("text(0, 80)");
        due("put(0, 0, 127)", 1032);
        due("put(0, 0, 128)", 1127);
        due("put(0, 0, -128)", 872);
        due("put(0, 0, -129)", 872);
        due("put(0, 0, 255)", 1127);
        due("put(0, 0, 256)", 999);
        due("put(0, 0, " + MOST + ")", 1000);
        due("put(0, 0, " + LEAST + ")", 999);
        due("put(0, 0, 370)", 1000);
        due("put(0, 0, 0)", 1114);
        due("put(0, 79, -1)", 1032);
        due("put(0, 79, 0)", 999);
        due("put(0, 78, 0)", 1032);
        due("asked()", 0);

        sentence(9, "BAD; NOTHING; BEYOND.");
        full();
        refused("put(-1, 0, 1)", BAD);
        refused("put(4, 0, 1)", BAD);
        refused("put(4, -1, 1)", BAD);
        refusedBy("put(3, 0, 1)", NOTHING);
        refusedBy("put(3, -1, 1)", NOTHING);
        refusedBy("put(2, 0, 1)", BEYOND);
        refusedBy("put(1, 2, 1)", BEYOND);
        refusedBy("put(1, -1, 1)", BEYOND);
        refusedBy("put(1, " + MOST + ", 1)", BEYOND);
        refusedBy("put(1, " + LEAST + ", 1)", BEYOND);
        call("text(1, 80)");
        refusedBy("put(1, 80, 1)", BEYOND);
        due("put(1, 79, 1)", 1032);
    }
}

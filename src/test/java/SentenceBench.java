import java.lang.reflect.InvocationTargetException;
import java.lang.reflect.Method;
import java.util.ArrayList;
import java.util.Arrays;
import java.util.HashMap;
import java.util.List;
import java.util.Map;

/**
 * What the tests of the document's sentences share: the sentence that is tried, an object whose calls are told by their
 * text ("row(0, 3)") and written down, so that a twin can be made by the same calls, and what was not as due.
 */
abstract class SentenceBench {
    static final int BAD = -1, FULL = -2, FINDING = -3, STATE = -4, NONE = -9;
    static final int NOTHING = 1, BEYOND = 2, UNLIKE = 3, NOUGHT = 4, SIZE = 5;
    static final int MOST = Integer.MAX_VALUE, LEAST = Integer.MIN_VALUE;

    /** The number that stands for the document's Terms, where those of promises stand otherwise. */
    static final int TERMS = 0;

    /** All KINDS (KNOT 0, LOOP 1, BEND 2, HITCH 3, SHEEP 4, WILL 5), two LAWS, four PAIRS, one of them with a SHEEP. */
    static final String ALL = "r4010 k21 o12 b23 h31 s12 w24 x00x13 y014y252y421y003";
    /** Two KNOTS that take 1 and 2, no LAWS, PAIRS of each with itself; 7 may be taken. */
    static final String TWO = "r1205k10k21y002y113";

    /** The document leaves free what an object answers later. */
    private static final int MOST_CALLS = 512;
    private static final int MOST_PLACES = 40;
    private static final Map<String, Method> FACE = face();

    private final List<String> calls = new ArrayList<>();
    private KnotRopes x = new KnotRopes();
    private int promise;
    private String words = "";
    final Map<Integer, List<String>> tried = new HashMap<>();
    int wrong;
    int checks;

    abstract void tryAll();

    private static Map<String, Method> face() {
        Map<String, Method> face = new HashMap<>();
        for (Method m : KnotRopes.class.getMethods()) {
            if (m.getDeclaringClass() == KnotRopes.class) {
                face.put(m.getName(), m);
            }
        }
        return face;
    }

    // ---- which sentence, with a new object

    /** From here on this sentence of a promise (or of the Terms) is tried, on a new object. */
    void sentence(int number, String sentence) {
        promise = number;
        words = sentence;
        tried.computeIfAbsent(number, n -> new ArrayList<>()).add(sentence);
        anew();
    }

    void anew() {
        x = new KnotRopes();
        calls.clear();
    }

    void anew(String craft) {
        anew();
        tell(0, craft);
        if (call("craft(0)") < 0) {
            wrong("no craft: " + craft);
        }
    }

    void wrong(String what) {
        wrong++;
        String where = promise == TERMS ? "Terms" : "promise " + promise;
        System.out.println(where + ", \"" + words + "\": " + what);
    }

    // ---- calls

    long call(String text) {
        calls.add(text);
        if (calls.size() == MOST_CALLS + 1) {
            wrong("the test asks more of an object than " + MOST_CALLS + " calls");
        }
        return callOn(x, text);
    }

    private long callOn(KnotRopes object, String text) {
        int open = text.indexOf('(');
        Method method = FACE.get(text.substring(0, open));
        String inside = text.substring(open + 1, text.length() - 1);
        String[] told = inside.isEmpty() ? new String[0] : inside.split(",");
        Object[] values = new Object[told.length];
        for (int i = 0; i < told.length; i++) {
            values[i] = Integer.parseInt(told[i].trim());
        }
        try {
            return ((Number) method.invoke(object, values)).longValue();
        } catch (InvocationTargetException e) {
            wrong(text + " threw " + e.getCause());
        } catch (IllegalAccessException e) {
            wrong(text + " can't be called: " + e);
        }
        return Long.MIN_VALUE;
    }

    /** An object by the same calls; what is asked of it is not asked of the one that is tried. */
    private KnotRopes twin() {
        KnotRopes twin = new KnotRopes();
        for (String text : calls) {
            callOn(twin, text);
        }
        return twin;
    }

    // ---- what is made ready

    static int[] of(int... values) {
        return values;
    }

    static int[] times(int many, int v) {
        int[] all = new int[many];
        Arrays.fill(all, v);
        return all;
    }

    void tell(int t, String text) {
        call("text(" + t + ", " + text.length() + ")");
        for (int i = 0; i < text.length(); i++) {
            if (text.charAt(i) != ' ') {
                call("put(" + t + ", " + i + ", " + (int) text.charAt(i) + ")");
            }
        }
    }

    void row(int r, int... values) {
        call("row(" + r + ", " + values.length + ")");
        for (int i = 0; i < values.length; i++) {
            if (values[i] != 0) {
                call("lay(" + r + ", " + i + ", " + values[i] + ")");
            }
        }
    }

    void tie(int... knots) {
        for (int k : knots) {
            if (call("tie(" + k + ")") < 0) {
                wrong(k + " was not tied");
            }
        }
    }

    /**
     * Something of every sort is there, and has been told, so that a refused call that changes anything is seen:
     * ROW 0 is of KNOTS and a MESSAGE, 1 has 13 (one is 10), 2 has 21 (one is 99), 3 has a number of no KNOT and no SIGN,
     * 4 is empty, 5 is missing; TEXT 1 has a FAULT, 2 is empty, 3 is missing; the place 1 has no kept ROPE.
     */
    void full() {
        anew(ALL);
        tell(1, "r9");
        call("text(2, 0)");
        tie(1, 5, 2);
        call("keep(0)");
        call("length(30)");
        tie(0);
        call("keep(2)");
        row(0, 0, 1, 2);
        call("row(1, 13)");
        call("lay(1, 12, 10)");
        call("row(2, 21)");
        call("lay(2, 20, 99)");
        row(3, 1, 10);
        call("row(4, 0)");
        for (String refused : new String[] {"tear(5)", "rope(9)", "mark(0, 1)", "mean(4)", "row(0, -1)"}) {
            call(refused);
        }
        call("ropes(2)");
        call("at(0, 2)");
    }

    // ---- what is due

    void due(String text, long want) {
        same(text, call(text), want);
    }

    void same(String what, long got, long want) {
        checks++;
        if (got != want) {
            wrong(what + " answered " + got + ", due is " + want);
        }
    }

    /** What a call answers, and what it tells by asked(). */
    void told(String text, long want, int asked) {
        due(text, want);
        same(text + ", asked()", callOn(x, "asked()"), asked);
    }

    /** asked() tells -77 from here on, so that what is told next is seen to be told; ROW 5 is used for it. */
    void askedOtherwise() {
        call("row(5, 1)");
        call("lay(5, 0, -77)");
        call("at(5, 0)");
    }

    /** What a call that answers 1 tells by upper(). */
    void many(String text, long upper) {
        due(text, 1);
        same(text + ", upper()", callOn(x, "upper()"), upper);
    }

    void dueRow(int r, int... values) {
        KnotRopes twin = twin();
        int size = 0;
        while (size <= MOST_PLACES && callOn(twin, "at(" + r + ", " + size + ")") == 1) {
            long got = callOn(twin, "asked()");
            if (size < values.length) {
                same("place " + size + " of row " + r, got, values[size]);
            }
            size++;
        }
        same("the size of row " + r, size, values.length);
        if (values.length == 0) {
            same("row " + r + " is there: tear(" + r + ")", callOn(twin, "tear(" + r + ")"), 1);
        }
    }

    void dueMissing(int r) {
        KnotRopes twin = twin();
        same("row " + r + " is missing: tear(" + r + ")", callOn(twin, "tear(" + r + ")"), FINDING);
        same("finding()", callOn(twin, "finding()"), NOTHING);
    }

    void dueRope(int... knots) {
        KnotRopes twin = twin();
        same("the knots of the rope", callOn(twin, "count(1)"), knots.length);
        for (int i = 0; i < knots.length; i++) {
            same("rope(" + i + ")", callOn(twin, "rope(" + i + ")"), knots[i]);
        }
    }

    /** Refused without a FINDING: nothing at all has changed. */
    void refused(String text, int answer) {
        changesNothing(text, answer);
    }

    /** Refused with a FINDING: nothing has changed but finding(), findings(). */
    void refusedBy(String text, int finding) {
        // The latest FINDING ahead of it is another one, so that finding() is seen to change.
        call(finding == SIZE ? "rope(99)" : "row(0, -1)");
        KnotRopes before = twin();
        long[] counts = findings(before);
        due(text, FINDING);
        KnotRopes after = twin();
        counts[finding]++;
        counts[0] = finding;
        compare(text, "findings", findings(after), counts);
        compare(text, "what it changed", all(after), all(before));
    }

    /** Neither what is there, nor what was told, nor a FINDING changes. */
    void changesNothing(String text, long want) {
        KnotRopes before = twin();
        due(text, want);
        KnotRopes after = twin();
        compare(text, "findings", findings(after), findings(before));
        compare(text, "what it changed", all(after), all(before));
    }

    /** What is there stays, though asked() or upper() may tell something else. */
    void onlyTells(String text, long want) {
        KnotRopes before = twin();
        due(text, want);
        KnotRopes after = twin();
        compare(text, "findings", findings(after), findings(before));
        long[] was = all(before);
        long[] is = all(after);
        was[0] = is[0];
        was[1] = is[1];
        compare(text, "what it changed", is, was);
    }

    // ---- what all calls with a ROW of KNOTS, or a MESSAGE, refuse

    /** A call (its text has % for the ROW's number) with a ROW of so many KNOTS at most. */
    void knotRefusals(String text, int most) {
        full();
        refusedOfRow(text, most);
        row(3, 0, 6);
        refusedBy(with(text, 3), UNLIKE);
        full();
        call("row(0, " + most + ")");
        call("lay(0, " + (most - 1) + ", 5)");
        notRefused(with(text, 0));
        notRefused(with(text, 4));
        anew();
        call("row(0, 1)");
        call("row(4, 0)");
        refusedBy(with(text, 0), UNLIKE);
        notRefused(with(text, 4));
    }

    /** The same with a MESSAGE. */
    void messageRefusals(String text) {
        full();
        refusedOfRow(text, 12);
        row(3, 0, 10);
        refusedBy(with(text, 3), UNLIKE);
        full();
        call("row(0, 12)");
        call("lay(0, 11, 9)");
        notRefused(with(text, 0));
        notRefused(with(text, 4));
    }

    private void refusedOfRow(String text, int most) {
        refused(with(text, -1), BAD);
        refused(with(text, 6), BAD);
        refused(with(text, LEAST), BAD);
        refused(with(text, MOST), BAD);
        refusedBy(with(text, 5), NOTHING);
        refusedBy(with(text, 2), SIZE);
        call("row(1, " + (most + 1) + ")");
        refusedBy(with(text, 1), SIZE);
        call("lay(1, " + most + ", -1)");
        refusedBy(with(text, 1), SIZE);
        call("row(1, " + most + ")");
        call("lay(1, " + (most - 1) + ", -1)");
        refusedBy(with(text, 1), UNLIKE);
        refusedBy(with(text, 3), UNLIKE);
        row(3, -1);
        refusedBy(with(text, 3), UNLIKE);
        row(3, MOST, 0);
        refusedBy(with(text, 3), UNLIKE);
        row(3, 0, LEAST);
        refusedBy(with(text, 3), UNLIKE);
    }

    private static String with(String text, int r) {
        return text.replace("%", Integer.toString(r));
    }

    private void notRefused(String text) {
        long got = call(text);
        same(text + " is refused", got >= 0 || got == NONE ? 0 : 1, 0);
    }

    private void compare(String text, String what, long[] got, long[] want) {
        for (int i = 0; i < want.length; i++) {
            same(text + ": " + what + ", number " + i, got[i], want[i]);
        }
    }

    private long[] findings(KnotRopes object) {
        long[] all = new long[6];
        all[0] = callOn(object, "finding()");
        for (int f = 1; f <= 5; f++) {
            all[f] = callOn(object, "findings(" + f + ")");
        }
        return all;
    }

    /** All that can be seen of an object, but its FINDINGS; the object is spent by it. */
    private long[] all(KnotRopes object) {
        List<Long> seen = new ArrayList<>();
        seen.add(callOn(object, "asked()"));
        seen.add(callOn(object, "upper()"));
        seen.add(callOn(object, "digest()"));
        for (int k = 0; k < 3; k++) {
            seen.add(callOn(object, "on(" + k + ")"));
            seen.add(callOn(object, "left()"));
            seen.add(callOn(object, "asked()"));
            seen.add(callOn(object, "digest()"));
            seen.add(callOn(object, "upTo(20)"));
        }
        return seen.stream().mapToLong(Long::longValue).toArray();
    }
}

import java.util.Arrays;

/** What the tests share; each test extends it for the short names. */
abstract class Checks {
    static final int NONE = -1;
    static final int MIN = Integer.MIN_VALUE;
    static final int MAX = Integer.MAX_VALUE;
    static final int COURTIER = 0, SPY = 1, DEAF = 2, EAR = 3, SLIPPED = 4, HALF = 5, TWICE = 6;
    static final int BYTES = 0, SHORTS = 1, INTS = 2, LONGS = 3;
    static final int FILL = 3;

    private static int wrong = 0;
    private static String now = "";

    /** A call of an object that the test holds. */
    interface Call { long answer(); }
    /** A call of an object made for it. */
    interface Asked { long of(Used x); }
    /** Makes an object, the same each time. */
    interface Setup { Used make(); }

    /** The promise, or the sentence of the document, that the checks behind it hold. */
    static void about(String sentence) {
        now = sentence;
    }

    static void is(String call, long got, long due) {
        if (got != due) tell(call + " answered " + got + ", due is " + due);
    }

    static void isTrue(String what, boolean holds) {
        if (!holds) tell(what + " isn't so");
    }

    private static void tell(String what) {
        wrong++;
        System.out.println(now + ": " + what);
    }

    static void end(String tests) {
        System.out.println(wrong == 0 ? tests + ": all as due" : tests + ": " + wrong + " not as due");
        if (wrong != 0) System.exit(1);
    }

    // ==== objects in some state

    static Used fresh() {
        return new Used();
    }

    /** A row in a shelf. */
    static void put(Used x, int s, int sort, long... values) {
        is("row", x.row(s, sort, values.length), 1);
        for (int i = 0; i < values.length; i++) is("set", x.set(s, i, values[i]), 1);
    }

    /** Says some words, by a row in shelf 7, which holds nothing behind it. */
    static void say(Used x, long... words) {
        put(x, 7, INTS, words);
        is("say", x.say(7, words.length), words.length);
        x.show(7, NONE);
    }

    static long[] all(int n, long value) {
        long[] row = new long[n];
        Arrays.fill(row, value);
        return row;
    }

    static void sayFill(Used x, int n) {
        say(x, all(n, FILL));
    }

    /** A courtier of each of some kinds, with one a and one from. */
    static Used with(int a, int from, int... kinds) {
        Used x = fresh();
        for (int kind : kinds) x.man(kind, a, from);
        return x;
    }

    static void putText(Used x, int s, int sort, String text) {
        long[] letters = new long[text.length()];
        for (int i = 0; i < letters.length; i++) letters[i] = text.charAt(i);
        put(x, s, sort, letters);
    }

    /** Tells a court by a row in shelf 7, which holds nothing behind it. */
    static int court(Used x, String text) {
        putText(x, 7, BYTES, text);
        int items = x.court(7);
        x.show(7, NONE);
        return items;
    }

    static void stands(Used x, String text, int items) {
        is("court(" + text + ")", court(x, text), items);
        is("fault() behind " + text, x.fault(), NONE);
    }

    /** The text has a fault at this place. */
    static void unfit(Used x, String text, int fault) {
        is("court(" + text + ")", court(x, text), -6);
        is("fault() behind " + text, x.fault(), fault);
    }

    // ==== what is asked of them

    static String heard(Used x, int man, int words) {
        StringBuilder b = new StringBuilder();
        for (int p = 0; p < words; p++) if (x.hears(man, p) == 1) b.append(p).append(' ');
        return b.toString().trim();
    }

    static void hearsJust(Used x, int man, String places) {
        String got = heard(x, man, x.status(1));
        if (!got.equals(places)) tell(man + " hears " + got + ", due is " + places);
        is("HIS of " + man, x.manOf(man, 3), places.isEmpty() ? 0 : places.split(" ").length);
    }

    /** All that an image keeps, as it can be asked: 6 calls, 7 for each courtier, 1 for each word. */
    static String state(Used x) {
        StringBuilder b = new StringBuilder();
        for (int i = 0; i < 6; i++) b.append(x.status(i)).append(',');
        int men = x.status(0);
        for (int m = 0; m < men; m++) {
            for (int i = 0; i < 6; i++) b.append(x.manOf(m, i)).append(',');
            b.append(x.belief(m)).append(',');
        }
        int words = x.status(1);
        for (int p = 0; p < words; p++) b.append(x.word(p)).append(',');
        return b.toString();
    }

    /** All but the counts of refusals, as it can be asked: shelves, fault, trace, the state, and that of the image. */
    static String everything(Used x) {
        StringBuilder b = new StringBuilder();
        for (int s = 0; s < 8; s++) {
            b.append(x.holds(s)).append(':');
            for (int i = 0; i < 7; i++) b.append(x.element(s, i)).append(',');
        }
        for (int i = 0; i < 20; i++) b.append(x.trace(i)).append(',');
        b.append(x.status(6)).append(',').append(x.fault()).append(" now ").append(state(x));
        b.append(" image ").append(x.restore());
        return b.append(' ').append(state(x)).toString();
    }

    /** The counts of refusals -1 to -7. */
    static long[] counts(Used x) {
        long[] counts = new long[8];
        for (int i = 1; i < 8; i++) counts[i] = x.status(10 + i);
        return counts;
    }

    /** What a refusal's answer is counted as: 1 to 7. */
    static int code(int answer) {
        return answer < -7 ? -answer - 10 : -answer;
    }

    /** The call is refused with this answer, and counted. */
    static void refused(Used x, int answer, Call call) {
        int count = x.status(10 + code(answer));
        is("a wrong call", call.answer(), answer);
        is("how many such", x.status(10 + code(answer)), count + 1);
    }

    /** The call is refused with this answer, counted as that one alone, and changes nothing else. */
    static void refused(Setup of, String call, int answer, Asked asked) {
        Used as = of.make();
        refused(of, counts(as), everything(as), call, answer, asked);
    }

    /** As above, where what it is ahead is known already. */
    static void refused(Setup of, long[] counts, String before, String call, int answer, Asked asked) {
        Used x = of.make();
        is(call, asked.of(x), answer);
        long[] behind = counts(x);
        for (int i = 1; i < 8; i++) {
            is("status(" + (10 + i) + ") behind " + call, behind[i], counts[i] + (i == code(answer) ? 1 : 0));
        }
        isTrue("nothing changes by " + call, before.equals(everything(x)));
    }

    /** The call is not refused. */
    static void allowed(Setup of, String call, Asked asked) {
        Used x = of.make();
        long[] before = counts(x);
        asked.of(x);
        isTrue(call + " is not refused", Arrays.equals(before, counts(x)));
    }

    /** The text has a fault at this place: it is refused, and nothing of it is told. */
    static void faulty(Setup of, String text, int fault) {
        Used x = of.make();
        String before = state(x);
        int wrongs = x.status(16);
        unfit(x, text, fault);
        is("how many such", x.status(16), wrongs + 1);
        isTrue("nothing is told by " + text, before.equals(state(x)));
    }
}

import java.util.Arrays;

/**
 * The refusals of each promise: every mixture of arguments at their edges, on an object made for it. The rules stand in
 * the order of the document; the first that fits is answered and counted, and nothing else changes.
 */
public final class RefusalTest extends Checks {
    private static final int NOBODY = -1, OTHER = -2, NOTHING = -3, BELOW = -4, BEYOND = -5, WRONG = -6, ROOM = -7;
    private static final int FINE = 0;
    private static final int FAR = 10;

    /** Which refusal is due for some arguments; FINE: none. */
    interface Rule { int of(int[] a); }
    interface AskedWith { long of(Used x, int[] a); }

    // What the shelves of the object hold: a COURTIER in 0, NOTHING in 1, ROWS from 2 on.
    private static final int MAN = 0, EMPTY = 1, WORDS = 2, NO_WORD = 3, NONE_IN_IT = 4, LONG_ROW = 5, DEAF_MAN = 6, SHORT = 7;
    private static final int[] ANY_SHELF = {MIN, -1, MAN, EMPTY, WORDS, NO_WORD, NONE_IN_IT, LONG_ROW, SHORT, 8, MAX};
    private static final int[] LENGTH = {0, 0, 5, 5, 0, 40, 0, 2};
    private static final int[] SORT = {-1, -1, INTS, LONGS, INTS, BYTES, -1, INTS};
    private static final int MEN = 3;
    private static final int PLACES = 5;
    private static final int[] ANY_MAN = {MIN, -1, 0, 2, 3, 8, MAX};
    private static final int[] ANY_ROUNDS = {MIN, -1, 0, 9, 10, MAX};
    private static final int[] ANY_SET = {MIN, -1, 0, 7, 8, MAX};

    public static void main(String[] args) {
        shelves();
        court();
        heard();
        comesOfIt();
        comesOfRows();
        truth();
        neverRefused();
        counts();
        end("refusals");
    }

    /** Three courtiers, a saying of five words, and something in all that a refusal could change. */
    private static Used some() {
        Used x = fresh();
        x.man(EAR, 0, 0);
        x.man(TWICE, 3, 1);
        x.man(DEAF, 1, 2);
        x.meet(0, 1, true);
        put(x, WORDS, INTS, 0, 5, 2, 8, 39);
        x.say(WORDS, PLACES);
        x.audience(1);
        x.seed(77);
        x.image();
        x.meet(0, 2, true);
        x.audience(0);
        x.seed(78);
        put(x, NO_WORD, LONGS, 0, (1L << 32) + 39, 7, 40, -1);
        x.row(NONE_IN_IT, INTS, 0);
        x.row(LONG_ROW, BYTES, 40);
        put(x, SHORT, INTS, 4, -1);
        x.show(MAN, 0);
        x.show(DEAF_MAN, 2);
        is("court", x.court(WORDS), WRONG);
        is("fault", x.fault(), 0);
        x.act(1, 2, 5);
        return x;
    }

    /** The same with eight courtiers. */
    private static Used full() {
        Used x = some();
        for (int i = MEN; i < 8; i++) x.man(COURTIER, i, 0);
        return x;
    }

    /** Every mixture of arguments at their edges. */
    private static void mix(Setup of, String name, Rule rule, int far, AskedWith call, int[]... edges) {
        about("REFUSALS of " + name);
        Used as = of.make();
        long[] counts = counts(as);
        String before = everything(as);
        int[] at = new int[edges.length];
        int[] a = new int[edges.length];
        while (true) {
            for (int i = 0; i < a.length; i++) a[i] = edges[i][at[i]];
            int due = rule.of(a);
            String told = name + Arrays.toString(a);
            if (due == FINE) allowed(of, told, x -> call.of(x, a));
            else refused(of, counts, before, told, due - far, x -> call.of(x, a));
            int i = 0;
            while (i < at.length && ++at[i] == edges[i].length) at[i++] = 0;
            if (i == at.length) return;
        }
    }

    private static void near(String name, Rule rule, AskedWith call, int[]... edges) {
        mix(RefusalTest::some, name, rule, 0, call, edges);
    }

    private static void far(String name, Rule rule, AskedWith call, int[]... edges) {
        mix(RefusalTest::some, name, rule, FAR, call, edges);
    }

    private static int[] of(int... edges) {
        return edges;
    }

    // ==== the rules' words

    private static boolean noShelf(int s) { return s < 0 || s > 7; }
    private static boolean noMan(int man) { return man < 0 || man >= MEN; }
    private static boolean noKind(int kind) { return kind < 0 || kind > 6; }
    private static boolean noRounds(int r) { return r < 0 || r > 9; }
    private static boolean noSet(int set) { return set < 0 || set > 7; }
    private static boolean noPlace(int place) { return place < 0 || place >= PLACES; }
    private static boolean isMan(int s) { return s == MAN || s == DEAF_MAN; }
    /** Whether one of the first n elements of the row in a shelf is no word. */
    private static boolean wrong(int s, int n) { return s == NO_WORD && n > 3 || s == SHORT && n > 1; }

    /** -1; -2; -3 of a shelf where a row is wanted. */
    private static int row(int s) {
        return noShelf(s) ? NOBODY : isMan(s) ? OTHER : s == EMPTY ? NOTHING : FINE;
    }

    private static boolean noElement(int s, int i) {
        return i < 0 || i >= LENGTH[s];
    }

    // ==== promises 2 to 8

    private static void shelves() {
        near("row", a -> noShelf(a[0]) ? NOBODY : a[2] < 0 ? BELOW : a[1] < 0 || a[1] > 3 ? WRONG : a[2] > 160 ? ROOM : FINE,
            (x, a) -> x.row(a[0], a[1], a[2]),
            of(MIN, -1, 0, 1, 5, 7, 8, MAX), of(MIN, -1, 0, 3, 4, MAX), of(MIN, -1, 0, 1, 160, 161, MAX));
        near("set", a -> row(a[0]) != FINE ? row(a[0]) : noElement(a[0], a[1]) ? BEYOND : FINE,
            (x, a) -> x.set(a[0], a[1], a[2]),
            ANY_SHELF, of(MIN, -1, 0, 1, 2, 4, 5, 39, 40, 159, 160, MAX), of(MIN, 0, MAX));
        near("copy", RefusalTest::copying, (x, a) -> x.copy(a[0], a[1], a[2], a[3], a[4]),
            of(-1, MAN, EMPTY, WORDS, NO_WORD, SHORT), of(EMPTY, MAN, WORDS, NO_WORD, SHORT, 8),
            of(MIN, -1, 0, 3, 5, 6, MAX), of(MIN, -1, 0, 1, 2, 3, MAX), of(MIN, -1, 0, 1, 2, 5, 6, MAX));
        near("show", a -> noShelf(a[0]) || a[1] != NONE && noMan(a[1]) ? NOBODY : FINE,
            (x, a) -> x.show(a[0], a[1]), ANY_SHELF, of(MIN, -2, -1, 0, 2, 3, 8, MAX));
        near("says", RefusalTest::saying, (x, a) -> x.says(a[0], a[1]),
            of(MIN, -1, MAN, EMPTY, WORDS, NONE_IN_IT, DEAF_MAN, 8, MAX), of(MIN, -1, 0, 1, 2, 3, 4, 5, 6, 7, MAX));
    }

    private static int copying(int[] a) {
        if (noShelf(a[0]) || noShelf(a[1])) return NOBODY;
        if (isMan(a[0]) || isMan(a[1])) return OTHER;
        if (a[0] != EMPTY && a[1] != EMPTY && SORT[a[0]] != SORT[a[1]]) return OTHER;
        if (a[0] == EMPTY || a[1] == EMPTY) return NOTHING;
        if (a[4] < 0) return BELOW;
        return a[2] < 0 || a[3] < 0 || 0L + a[2] + a[4] > LENGTH[a[0]] || 0L + a[3] + a[4] > LENGTH[a[1]] ? BEYOND : FINE;
    }

    /** An EAR is in shelf MAN, a DEAF one in DEAF_MAN. */
    private static int saying(int[] a) {
        if (noShelf(a[0]) || noKind(a[1])) return NOBODY;
        if (a[0] == MAN) return a[1] == COURTIER || a[1] == SPY || a[1] == EAR ? FINE : OTHER;
        if (a[0] == DEAF_MAN) return a[1] == COURTIER || a[1] == DEAF ? FINE : OTHER;
        return a[0] == EMPTY ? NOTHING : OTHER;
    }

    // ==== promises 9 to 15

    private static void court() {
        Rule man = a -> noKind(a[0]) ? NOBODY : a[1] < 0 || a[1] > 9 || a[2] < 0 || a[2] > 2 ? WRONG : FINE;
        AskedWith call = (x, a) -> x.man(a[0], a[1], a[2]);
        int[][] edges = {of(MIN, -1, 0, 6, 7, MAX), of(MIN, -1, 0, 9, 10, MAX), of(MIN, -1, 0, 2, 3, MAX)};
        near("man", man, call, edges);
        mix(RefusalTest::full, "man in a full court", a -> man.of(a) != FINE ? man.of(a) : ROOM, 0, call, edges);
        near("manOf", a -> noMan(a[0]) || a[1] < 0 || a[1] > 5 ? BEYOND : FINE,
            (x, a) -> x.manOf(a[0], a[1]), ANY_MAN, of(MIN, -1, 0, 5, 6, MAX));
        near("meet", a -> noMan(a[0]) || noMan(a[1]) ? NOBODY : a[0] == a[1] ? WRONG : FINE,
            (x, a) -> x.meet(a[0], a[1], a[2] == 1), ANY_MAN, ANY_MAN, of(0, 1));
        near("say", a -> telling(a[0], a[1]), (x, a) -> x.say(a[0], a[1]), ANY_SHELF,
            of(MIN, -1, 0, 1, 2, 3, 4, 5, 6, 30, 31, 40, 41, MAX));
        near("word", a -> noPlace(a[0]) ? BEYOND : FINE, (x, a) -> x.word(a[0]), of(MIN, -1, 0, 4, 5, 29, 30, MAX));
        near("court", a -> row(a[0]) != FINE ? row(a[0]) : WRONG, (x, a) -> x.court(a[0]), ANY_SHELF);
    }

    /** -1; -2; -3; -4; -5 fewer elements; -6 one that is no WORD, n above 30. */
    private static int telling(int s, int n) {
        if (row(s) != FINE) return row(s);
        return n < 0 ? BELOW : n > LENGTH[s] ? BEYOND : wrong(s, n) || n > 30 ? WRONG : FINE;
    }

    // ==== promises 16 to 20

    private static void heard() {
        near("hears", a -> noMan(a[0]) ? NOBODY : noPlace(a[1]) ? BEYOND : FINE,
            (x, a) -> x.hears(a[0], a[1]), ANY_MAN, of(MIN, -1, 0, 4, 5, 29, 30, 32, MAX));
        far("sense", a -> noMan(a[0]) ? NOBODY : noRounds(a[1]) ? WRONG : FINE,
            (x, a) -> x.sense(a[0], a[1]), ANY_MAN, ANY_ROUNDS);
        near("known", a -> noMan(a[0]) ? NOBODY : noRounds(a[1]) ? WRONG : FINE,
            (x, a) -> x.known(a[0], a[1]), ANY_MAN, ANY_ROUNDS);
        far("belief", a -> noMan(a[0]) ? NOBODY : FINE, (x, a) -> x.belief(a[0]), ANY_MAN);
    }

    // ==== promises 21 to 28

    private static void comesOfIt() {
        far("together", a -> a[1] < 0 || a[1] > 2 ? BEYOND : noSet(a[0]) ? WRONG : FINE,
            (x, a) -> x.together(a[0], a[1]), ANY_SET, of(MIN, -1, 0, 1, 2, 3, MAX));
        far("ask", a -> noSet(a[0]) ? WRONG : FINE, (x, a) -> x.ask(a[0]), ANY_SET);
        far("soon", a -> noMan(a[0]) ? NOBODY : FINE, (x, a) -> x.soon(a[0]), ANY_MAN);
        near("wrongOnes", a -> noRounds(a[0]) ? WRONG : FINE, (x, a) -> x.wrongOnes(a[0]), ANY_ROUNDS);
        far("apart", a -> noMan(a[0]) ? NOBODY : FINE, (x, a) -> x.apart(a[0]), ANY_MAN);
        int[] senses = {MIN, -2, -1, 0, 999, 1000, 1999, 2000, MAX};
        near("speak", RefusalTest::speaking, (x, a) -> x.speak(a[0], a[1], a[2], a[3]),
            senses, senses, senses, of(MIN, -2, -1, 0, 8, 9, 11, 12, MAX));
    }

    /** Whether there is such an i is asked only if the senses may be. */
    private static int speaking(int[] a) {
        int longest = 0;
        for (int i = 0; i < 3; i++) {
            if (a[i] < -1 || a[i] > 1999) return WRONG;
            longest = Math.max(longest, a[i] == NONE ? 0 : a[i] < 1000 ? 3 : 4);
        }
        return a[3] != NONE && (a[3] < 0 || a[3] >= 3 * longest) ? BEYOND : FINE;
    }

    // ==== promises 29 to 34

    private static void comesOfRows() {
        near("needs", a -> row(a[0]) != FINE ? row(a[0]) : LENGTH[a[0]] < MEN ? BEYOND : FINE, (x, a) -> x.needs(a[0]), ANY_SHELF);
        mix(RefusalTest::full, "needs of eight", a -> row(a[0]) != FINE ? row(a[0]) : LENGTH[a[0]] < 8 ? BEYOND : FINE, 0,
            (x, a) -> x.needs(a[0]), ANY_SHELF);
        near("needs of what is no WORD", a -> WRONG, (x, a) -> {
            x.set(WORDS, a[0], a[1]);
            int answer = x.needs(WORDS);
            x.set(WORDS, a[0], new int[] {0, 5, 2}[a[0]]);
            return answer;
        }, of(0, 1, 2), of(MIN, -1, 40, MAX));
        far("count", a -> row(a[0]) != FINE ? row(a[0]) : a[1] < 0 || a[1] > 1 ? BEYOND : FINE,
            (x, a) -> x.count(a[0], a[1]), ANY_SHELF, of(MIN, -1, 0, 1, 2, MAX));
        near("could", a -> row(a[0]), (x, a) -> x.could(a[0]), ANY_SHELF);
        int[] lengths = {MIN, -1, 0, 1, 2, 3, 4, 5, 6, 30, 31, 40, 41, MAX};
        far("judge", RefusalTest::judging, (x, a) -> x.judge(a[0], a[1]), ANY_SHELF, lengths);
        far("would", a -> noMan(a[2]) ? NOBODY : telling(a[0], a[1]), (x, a) -> x.would(a[0], a[1], a[2]),
            ANY_SHELF, lengths, ANY_MAN);
    }

    private static int judging(int[] a) {
        if (row(a[0]) != FINE) return row(a[0]);
        return a[1] < 0 ? BELOW : a[1] > LENGTH[a[0]] ? BEYOND : a[1] > 30 ? WRONG : FINE;
    }

    // ==== promises 35 to 41

    private static void truth() {
        near("audience", a -> noRounds(a[0]) ? WRONG : FINE, (x, a) -> x.audience(a[0]), ANY_ROUNDS);
        near("reign", a -> a[0] < 1 || a[0] > 60 ? WRONG : FINE, (x, a) -> x.reign(a[0]), of(MIN, -1, 0, 1, 60, 61, MAX));
        near("restore with an IMAGE", a -> FINE, (x, a) -> x.restore());
        mix(Checks::fresh, "restore without one", a -> WRONG, 0, (x, a) -> x.restore());
        mix(() -> with(3, 1, COURTIER, HALF), "restore without one", a -> WRONG, 0, (x, a) -> x.restore());
    }

    /** What the document refuses nothing of, whatever its arguments. */
    private static void neverRefused() {
        int[] any = {MIN, -1, 0, 1, 2, 5, 7, 8, 20, 160, MAX};
        near("element", a -> FINE, (x, a) -> x.element(a[0], a[1]), any, any);
        near("holds", a -> FINE, (x, a) -> x.holds(a[0]), any);
        near("fault", a -> FINE, (x, a) -> x.fault());
        near("whole", a -> FINE, (x, a) -> x.whole());
        near("cover", a -> FINE, (x, a) -> x.cover());
        near("lose", a -> FINE, (x, a) -> x.lose());
        near("swap", a -> FINE, (x, a) -> x.swap());
        near("seed", a -> FINE, (x, a) -> x.seed(a[0]), any);
        near("act", a -> FINE, (x, a) -> x.act(a[0], a[1], a[2]), ANY_MAN, of(MIN, -1, 0, 2, 3, MAX), of(MIN, 0, MAX));
        near("trace", a -> FINE, (x, a) -> x.trace(a[0]), any);
        near("image", a -> FINE, (x, a) -> x.image());
        near("status", a -> FINE, (x, a) -> x.status(a[0]), of(MIN, -1, 0, 6, 7, 10, 11, 17, 18, MAX));
    }

    // ==== how status() counts them

    private static void counts() {
        about("status: 11 to 17: REFUSALS -1 to -7");
        Used x = fresh();
        x.man(COURTIER, 0, 0);
        x.show(0, 0);
        put(x, 2, INTS, 40);
        for (int i = 0; i < 1; i++) is("-1", x.word(0), BEYOND);
        for (int i = 0; i < 7; i++) is("-1", x.show(8, 0), NOBODY);
        for (int i = 0; i < 6; i++) is("-2", x.could(0), OTHER);
        for (int i = 0; i < 5; i++) is("-3", x.could(1), NOTHING);
        for (int i = 0; i < 4; i++) is("-4", x.row(2, 0, -1), BELOW);
        for (int i = 0; i < 2; i++) is("-5", x.set(2, 1, 0), BEYOND);
        for (int i = 0; i < 2; i++) is("-6", x.reign(0), WRONG);
        for (int i = 0; i < 1; i++) is("-7", x.row(2, 0, 161), ROOM);
        for (int i = 1; i < 8; i++) is("status(" + (10 + i) + ")", x.status(10 + i), 8 - i);
        about("-11 to -16 are counted as -1 to -6");
        is("-11", x.belief(1), -11);
        is("-12", x.count(0, 0), -12);
        is("-13", x.judge(1, 0), -13);
        is("-14", x.would(2, -1, 0), -14);
        is("-15", x.together(0, 3), -15);
        is("-16", x.ask(2), -16);
        for (int i = 1; i < 8; i++) is("status(" + (10 + i) + ")", x.status(10 + i), i == 7 ? 1 : 9 - i);
        about("the counts of refusals are not of THE IMAGE");
        x.image();
        x.reign(0);
        x.restore();
        is("status(16)", x.status(16), 4);
        about("as many as 511");
        Used y = fresh();
        for (int i = 0; i < 511; i++) y.word(0);
        is("status(15)", y.status(15), 511);
    }
}

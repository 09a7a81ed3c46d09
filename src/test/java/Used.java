/**
 * An EveryonesThirdWord that counts its calls. Nothing is promised of an object behind its 512th call, so a test that
 * asks for a 513th would test what the document leaves free: it is stopped here.
 */
final class Used {
    static final int MOST_CALLS = 512;

    /** A test asked an object for one call too many. */
    static final class Spent extends RuntimeException {
        private static final long serialVersionUID = 1;
        Spent() { super("a 513th call of one object"); }
    }

    private final EveryonesThirdWord real = new EveryonesThirdWord();
    private int calls = 0;

    private EveryonesThirdWord next() {
        if (calls == MOST_CALLS) throw new Spent();
        calls++;
        return real;
    }

    /** How many calls it may still be asked for. */
    int left() { return MOST_CALLS - calls; }

    int row(int s, int sort, int n) { return next().row(s, sort, n); }
    int set(int s, int i, long v) { return next().set(s, i, v); }
    int copy(int p, int q, int i, int j, int n) { return next().copy(p, q, i, j, n); }
    long element(int s, int i) { return next().element(s, i); }
    int show(int s, int man) { return next().show(s, man); }
    int holds(int s) { return next().holds(s); }
    int says(int s, int kind) { return next().says(s, kind); }
    int man(int kind, int a, int from) { return next().man(kind, a, from); }
    int manOf(int man, int what) { return next().manOf(man, what); }
    int meet(int man, int other, boolean is) { return next().meet(man, other, is); }
    int say(int s, int n) { return next().say(s, n); }
    int word(int place) { return next().word(place); }
    int court(int s) { return next().court(s); }
    int fault() { return next().fault(); }
    int hears(int man, int place) { return next().hears(man, place); }
    int sense(int man, int r) { return next().sense(man, r); }
    int whole() { return next().whole(); }
    int known(int man, int r) { return next().known(man, r); }
    int belief(int man) { return next().belief(man); }
    int together(int set, int what) { return next().together(set, what); }
    int cover() { return next().cover(); }
    int ask(int set) { return next().ask(set); }
    int soon(int man) { return next().soon(man); }
    int wrongOnes(int r) { return next().wrongOnes(r); }
    int apart(int man) { return next().apart(man); }
    int lose() { return next().lose(); }
    int speak(int one, int two, int three, int i) { return next().speak(one, two, three, i); }
    int needs(int s) { return next().needs(s); }
    int count(int s, int what) { return next().count(s, what); }
    int could(int s) { return next().could(s); }
    int swap() { return next().swap(); }
    int judge(int s, int n) { return next().judge(s, n); }
    int would(int s, int n, int man) { return next().would(s, n, man); }
    int audience(int r) { return next().audience(r); }
    int reign(int n) { return next().reign(n); }
    int seed(int v) { return next().seed(v); }
    int act(int man, int move, int x) { return next().act(man, move, x); }
    int trace(int i) { return next().trace(i); }
    int image() { return next().image(); }
    int restore() { return next().restore(); }
    int status(int what) { return next().status(what); }
}

import java.util.ArrayList;
import java.util.List;
import java.util.Random;

/** Runs of drawn calls, as long as an object may be used, each answered by the class and by the Model: they must agree. */
public final class ModelTest {
    private static final int RUNS = 20000;
    private static final int[] WILD = {
        Integer.MIN_VALUE, Integer.MIN_VALUE + 1, -1000, -17, -2, -1, 0, 1, 7, 8, 9, 29, 30, 31, 40, 159, 160, 161,
        255, 256, 1999, 2000, 65535, 65536, Integer.MAX_VALUE - 1, Integer.MAX_VALUE};

    private final Random random;
    private final Used real = new Used();
    private final Model model = new Model();
    private final List<String> calls = new ArrayList<>();
    private int men;
    private boolean wrong;

    private ModelTest(long seed) {
        random = new Random(seed);
    }

    public static void main(String[] args) {
        int bad = 0;
        for (int run = 0; run < RUNS && bad < 5; run++) {
            ModelTest test = new ModelTest(run);
            test.stepOn();
            if (test.wrong) bad++;
        }
        System.out.println(bad == 0 ? "model: " + RUNS + " runs agree" : "model: " + bad + " runs differ");
        if (bad != 0) System.exit(1);
    }

    private void stepOn() {
        try {
            while (!wrong) step();
        } catch (Used.Spent end) {
            // It has been used as long as the document promises anything: the run is over.
        }
    }

    private void same(String call, long got, long due) {
        calls.add(call);
        if (got == due || wrong) return;
        wrong = true;
        System.out.println(String.join("; ", calls.subList(Math.max(0, calls.size() - 60), calls.size())));
        System.out.println("   answered " + got + ", the model has " + due);
    }

    private int below(int n) {
        return random.nextInt(n);
    }

    private boolean rarely() {
        return below(25) == 0;
    }

    /** Mostly from low to high, now and then just outside, now and then anything. */
    private int near(int low, int high) {
        if (rarely()) return WILD[below(WILD.length)];
        if (rarely()) return random.nextBoolean() ? low - 1 : high + 1;
        return high < low ? low : low + below(high - low + 1);
    }

    private int shelf() { return rarely() ? near(0, 7) : below(5); }
    private int someone() { return near(0, men - 1); }
    private int rounds() { return near(0, 9); }

    private int someSet() {
        return rarely() ? WILD[below(WILD.length)] : below(1 << men) | (rarely() ? 1 << men : 0);
    }

    private void step() {
        switch (below(10)) {
            case 0: shelves(); break;
            case 1:
            case 2: tellWords(); break;
            case 3: build(); break;
            case 4: tellCourt(); break;
            case 5: heard(); break;
            case 6: answers(); break;
            case 7: rows(); break;
            case 8: truth(); break;
            default: statuses();
        }
        men = (int) model.status(0);
    }

    private void newRow(int s, int sort, int n) {
        same("row(" + s + ", " + sort + ", " + n + ")", real.row(s, sort, n), model.row(s, sort, n));
    }

    private void setOne(int s, int i, long v) {
        same("set(" + s + ", " + i + ", " + v + "L)", real.set(s, i, v), model.set(s, i, v));
    }

    private void shelves() {
        int s = shelf(), q = shelf(), i = near(0, 12), j = near(0, 12), n = near(0, 12), m = someone();
        switch (below(7)) {
            case 0: newRow(s, near(0, 3), near(0, 40)); break;
            case 1: setOne(s, i, random.nextLong() >> below(64)); break;
            case 2: same("copy(" + s + ", " + q + ", " + i + ", " + j + ", " + n + ")",
                real.copy(s, q, i, j, n), model.copy(s, q, i, j, n)); break;
            case 3: same("element(" + s + ", " + i + ")", real.element(s, i), model.element(s, i)); break;
            case 4:
                if (below(3) == 0) m = -1;
                same("show(" + s + ", " + m + ")", real.show(s, m), model.show(s, m));
                break;
            case 5: same("holds(" + s + ")", real.holds(s), model.holds(s)); break;
            default:
                int kind = near(0, 6);
                if (men > 0 && below(2) == 0) {
                    m = below(men);
                    same("show(" + s + ", " + m + ")", real.show(s, m), model.show(s, m));
                }
                same("says(" + s + ", " + kind + ")", real.says(s, kind), model.says(s, kind));
        }
    }

    /** Few marks and few fillings, so that senses come about and agree now and then. */
    private int someWord() {
        return rarely() ? near(0, 39) : below(3) * 4 + new int[] {0, 0, 1, 1, 2, 3}[below(6)];
    }

    private int putWords(int s) {
        int n = rarely() ? below(161) : below(31);
        newRow(s, below(4), n);
        for (int i = 0; i < n; i++) setOne(s, i, someWord());
        if (n > 0 && rarely()) setOne(s, below(n), WILD[below(WILD.length)]);
        if (n > 0 && rarely()) setOne(s, below(n), 1L << 32);
        return n;
    }

    private void tellWords() {
        int s = below(5);
        int n = putWords(s);
        int k = rarely() ? near(0, n) : below(n + 1);
        if (below(2) == 0) same("say(" + s + ", " + k + ")", real.say(s, k), model.say(s, k));
        else if (below(2) == 0) same("judge(" + s + ", " + k + ")", real.judge(s, k), model.judge(s, k));
        else {
            int m = someone();
            same("would(" + s + ", " + k + ", " + m + ")", real.would(s, k, m), model.would(s, k, m));
        }
    }

    private void build() {
        if (below(2) == 0) {
            int kind = near(0, 6), a = near(0, 9), from = near(0, 2);
            same("man(" + kind + ", " + a + ", " + from + ")", real.man(kind, a, from), model.man(kind, a, from));
        } else {
            int x = someone(), y = someone();
            boolean is = below(3) != 0;
            same("meet(" + x + ", " + y + ", " + is + ")", real.meet(x, y, is), model.meet(x, y, is));
        }
    }

    private String digits(int n) {
        return (below(6) == 0 ? "0" : "") + n;
    }

    private String item() {
        switch (below(9)) {
            case 0: return "man " + digits(near(0, 6)) + " " + digits(near(0, 9)) + " " + digits(near(0, 2));
            case 1:
            case 2: return "meet " + digits(near(0, Math.max(men, 2))) + " " + digits(near(0, Math.max(men, 2)));
            case 3: return "part " + digits(near(0, Math.max(men, 2))) + " " + digits(near(0, Math.max(men, 2)));
            case 4: return below(3) == 0 ? "hush" : "word 3";
            default: return "word " + digits(someWord());
        }
    }

    private void tellCourt() {
        StringBuilder text = new StringBuilder(below(3) == 0 ? "hush" : item());
        for (int more = below(6); more > 0; more--) text.append(';').append(item());
        if (below(3) == 0) {
            int at = below(text.length());
            String odd = "manetprwodhus; 0123456789x";
            switch (below(4)) {
                case 0: text.setLength(at); break;
                case 1: text.deleteCharAt(at); break;
                case 2: text.setCharAt(at, odd.charAt(below(odd.length()))); break;
                default: text.insert(at, odd.charAt(below(odd.length())));
            }
        }
        if (text.length() > 160) text.setLength(160);
        int s = below(5);
        newRow(s, below(4), text.length());
        for (int i = 0; i < text.length(); i++) setOne(s, i, text.charAt(i));
        calls.add("// " + text);
        same("court(" + s + ")", real.court(s), model.court(s));
        same("fault()", real.fault(), model.fault());
    }

    private void heard() {
        int m = someone(), r = rounds(), what = near(0, 5);
        int place = near(0, (int) model.status(1) - 1);
        switch (below(7)) {
            case 0: same("manOf(" + m + ", " + what + ")", real.manOf(m, what), model.manOf(m, what)); break;
            case 1: same("word(" + place + ")", real.word(place), model.word(place)); break;
            case 2: same("hears(" + m + ", " + place + ")", real.hears(m, place), model.hears(m, place)); break;
            case 3: same("sense(" + m + ", " + r + ")", real.sense(m, r), model.sense(m, r)); break;
            case 4: same("whole()", real.whole(), model.whole()); break;
            case 5: same("known(" + m + ", " + r + ")", real.known(m, r), model.known(m, r)); break;
            default: same("belief(" + m + ")", real.belief(m), model.belief(m));
        }
    }

    private void answers() {
        int set = someSet(), m = someone(), r = rounds(), what = near(0, 2);
        switch (below(9)) {
            case 0:
            case 1: same("together(" + set + ", " + what + ")", real.together(set, what), model.together(set, what)); break;
            case 2: same("cover()", real.cover(), model.cover()); break;
            case 3: same("ask(" + set + ")", real.ask(set), model.ask(set)); break;
            case 4: same("soon(" + m + ")", real.soon(m), model.soon(m)); break;
            case 5: same("wrongOnes(" + r + ")", real.wrongOnes(r), model.wrongOnes(r)); break;
            case 6: same("apart(" + m + ")", real.apart(m), model.apart(m)); break;
            case 7: same("lose()", real.lose(), model.lose()); break;
            default: if (below(4) == 0) same("swap()", real.swap(), model.swap());
        }
    }

    /** What some courtier, or some slipped one, heard, now and then with a word changed. */
    private void putHeard(int s) {
        Model of = model;
        int words = (int) of.status(1);
        List<Integer> part = new ArrayList<>();
        int m = men == 0 ? -1 : below(men);
        int from = below(3), slip = below(31);
        for (int p = 0; p < words; p++) {
            boolean hears = m >= 0 && slip % 2 == 0
                ? of.hears(m, p) == 1
                : p % 3 == (p < slip ? from : (from + 1) % 3);
            if (hears) part.add((int) of.word(p));
        }
        newRow(s, below(4), part.size());
        for (int i = 0; i < part.size(); i++) setOne(s, i, rarely() ? someWord() : part.get(i));
    }

    private void rows() {
        int s = below(5), what = near(0, 1);
        int one = near(-1, 1999), two = near(-1, 1999), three = near(-1, 1999), i = near(-1, 12);
        switch (below(4)) {
            case 0: same("speak(" + one + ", " + two + ", " + three + ", " + i + ")",
                real.speak(one, two, three, i), model.speak(one, two, three, i)); break;
            case 1:
                if (!rarely()) putWords(s);
                same("needs(" + s + ")", real.needs(s), model.needs(s));
                break;
            case 2:
                if (!rarely()) putHeard(s); else s = shelf();
                same("count(" + s + ", " + what + ")", real.count(s, what), model.count(s, what));
                break;
            default:
                if (!rarely()) putHeard(s); else s = shelf();
                same("could(" + s + ")", real.could(s), model.could(s));
        }
    }

    private void truth() {
        int m = someone(), x = random.nextInt() >> below(32), r = rounds();
        switch (below(8)) {
            case 0: same("audience(" + r + ")", real.audience(r), model.audience(r)); break;
            case 1:
                int n = below(4) == 0 ? near(1, 60) : below(4);
                if (below(3) == 0) same("reign(" + n + ")", real.reign(n), model.reign(n));
                break;
            case 2: if (below(3) == 0) same("seed(" + x + ")", real.seed(x), model.seed(x)); break;
            case 3: same("image()", real.image(), model.image()); break;
            case 4: same("restore()", real.restore(), model.restore()); break;
            default:
                int move = near(0, 2);
                same("act(" + m + ", " + move + ", " + x + ")", real.act(m, move, x), model.act(m, move, x));
                for (int i = -1; i < 12; i++) same("trace(" + i + ")", real.trace(i), model.trace(i));
        }
    }

    /** All that can be asked without a refusal. */
    private void statuses() {
        for (int what = -1; what < 19; what++) same("status(" + what + ")", real.status(what), model.status(what));
        for (int s = -1; s < 9; s++) same("holds(" + s + ")", real.holds(s), model.holds(s));
        for (int m = 0; m < men; m++) {
            for (int what = 0; what < 6; what++) same("manOf(" + m + ", " + what + ")", real.manOf(m, what), model.manOf(m, what));
            same("belief(" + m + ")", real.belief(m), model.belief(m));
        }
        for (int p = 0; p < model.status(1); p++) same("word(" + p + ")", real.word(p), model.word(p));
    }
}

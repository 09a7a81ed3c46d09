import java.util.ArrayList;
import java.util.Arrays;
import java.util.List;
import java.util.TreeSet;

/** The document read a second time, as plainly and slowly as can be: lists, sets, and real classes for the kinds. */
final class Model {
    static final int NONE = -1;

    /** A refusal, with the number that is counted. */
    static final class Refused extends RuntimeException {
        final int code;
        Refused(int code) { super(null, null, false, false); this.code = code; }
    }

    static class Courtier implements Cloneable {
        int number, kind, a, from, belief = NONE, hits;
        TreeSet<Integer> meets = new TreeSet<>();
        List<Integer> trace;

        List<Integer> his(int n) {
            List<Integer> l = new ArrayList<>();
            for (int p = 0; p < n; p++) if (p % 3 == from) l.add(p);
            return l;
        }
        final List<Integer> plain(int n) {
            List<Integer> l = new ArrayList<>();
            for (int p = 0; p < n; p++) if (p % 3 == from) l.add(p);
            return l;
        }
        int hears(int x) { trace.add(10); return x + number; }
        int makes(int x) { trace.add(11); return hears(x) * 2; }
        int tells(int x) { trace.add(12); return makes(x) ^ hears(x - a); }
        Courtier twin() {
            try {
                Courtier c = (Courtier) clone();
                c.meets = new TreeSet<>(meets);
                return c;
            } catch (CloneNotSupportedException e) {
                throw new AssertionError(e);
            }
        }
    }
    static class Spy extends Courtier {
        List<Integer> his(int n) {
            List<Integer> l = new ArrayList<>();
            for (int p = 0; p < n; p++) if (p % 3 == from || p >= a && p % 3 == (from + 1) % 3) l.add(p);
            return l;
        }
        int hears(int x) { trace.add(20); return super.hears(x) + a; }
    }
    static class Ear extends Spy {
        List<Integer> his(int n) {
            List<Integer> l = new ArrayList<>();
            for (int p = 0; p < n; p++) if (p % 3 == from || p >= a) l.add(p);
            return l;
        }
        int makes(int x) { trace.add(40); return super.makes(x + 1); }
    }
    static class Deaf extends Courtier {
        List<Integer> his(int n) {
            List<Integer> own = plain(n), l = new ArrayList<>();
            TreeSet<Integer> without = new TreeSet<>();
            for (int nth = a + 1; nth <= own.size(); nth += a + 2) without.add(nth);
            for (int nth = 1; nth <= own.size(); nth++) if (!without.contains(nth)) l.add(own.get(nth - 1));
            return l;
        }
        int makes(int x) { trace.add(30); return super.makes(x) * 3; }
    }
    static class Half extends Deaf {
        List<Integer> his(int n) {
            List<Integer> deaf = super.his(n), l = new ArrayList<>();
            for (int i = 0; i < deaf.size(); i += 2) l.add(deaf.get(i));
            return l;
        }
        int tells(int x) { trace.add(60); return super.tells(x) ^ 5; }
    }
    static class Slipped extends Courtier {
        List<Integer> his(int n) {
            List<Integer> l = new ArrayList<>();
            for (int p = 0; p < n; p++) if (p % 3 == (p < a ? from : (from + 1) % 3)) l.add(p);
            return l;
        }
        int tells(int x) { trace.add(50); return -super.tells(x); }
        int hears(int x) { trace.add(51); return super.hears(x) - number; }
    }
    static class Twice extends Slipped {
        List<Integer> his(int n) {
            List<Integer> l = new ArrayList<>();
            for (int p = 0; p < n; p++) {
                int late = p < a ? 0 : p < 2 * a ? 1 : 2;
                if (p % 3 == (from + late) % 3) l.add(p);
            }
            return l;
        }
        int hears(int x) { trace.add(70); return super.hears(x) * 2; }
        int makes(int x) { trace.add(71); return super.makes(x - a); }
    }

    private static Courtier born(int kind, int a, int from, int number) {
        Courtier c;
        switch (kind) {
            case 0: c = new Courtier(); break;
            case 1: c = new Spy(); break;
            case 2: c = new Deaf(); break;
            case 3: c = new Ear(); break;
            case 4: c = new Slipped(); break;
            case 5: c = new Half(); break;
            default: c = new Twice();
        }
        c.kind = kind; c.a = a; c.from = from; c.number = number;
        return c;
    }

    static final class State {
        List<Courtier> men = new ArrayList<>();
        List<Integer> saying = new ArrayList<>();
        int seed = 1;
        State twin() {
            State s = new State();
            for (Courtier c : men) s.men.add(c.twin());
            s.saying.addAll(saying);
            s.seed = seed;
            return s;
        }
    }

    private State now = new State();
    private State image;
    /** null, long[] (a row, with its sort beside it) or Integer. */
    private final Object[] shelf = new Object[8];
    private final int[] sort = new int[8];
    private final int[] refusals = new int[8];
    private int faultAt = NONE;
    private List<Integer> trace = new ArrayList<>();

    interface Call { long answer(); }

    private long near(Call c) {
        try { return c.answer(); } catch (Refused r) { refusals[-r.code]++; return r.code; }
    }
    private long far(Call c) {
        try { return c.answer(); } catch (Refused r) { refusals[-r.code]++; return r.code - 10; }
    }
    private static void refuseIf(boolean is, int code) { if (is) throw new Refused(code); }
    private static boolean noShelf(int s) { return s < 0 || s > 7; }
    private boolean noMan(int m) { return m < 0 || m >= now.men.size(); }

    private long[] rowIn(int s) {
        refuseIf(noShelf(s), -1);
        refuseIf(shelf[s] instanceof Integer, -2);
        refuseIf(shelf[s] == null, -3);
        return (long[]) shelf[s];
    }

    // ---- shelves
    long row(int s, int so, int n) {
        return near(() -> {
            refuseIf(noShelf(s), -1); refuseIf(n < 0, -4); refuseIf(so < 0 || so > 3, -6); refuseIf(n > 160, -7);
            shelf[s] = new long[n]; sort[s] = so;
            return 1;
        });
    }
    private long kept(int so, long v) {
        int bits = 8 << so;
        return so == 3 ? v : v << 64 - bits >> 64 - bits;
    }
    long set(int s, int i, long v) {
        return near(() -> {
            long[] r = rowIn(s);
            refuseIf(i < 0 || i >= r.length, -5);
            r[i] = kept(sort[s], v);
            return 1;
        });
    }
    long copy(int p, int q, int i, int j, int n) {
        return near(() -> {
            refuseIf(noShelf(p) || noShelf(q), -1);
            refuseIf(shelf[p] instanceof Integer || shelf[q] instanceof Integer, -2);
            refuseIf(shelf[p] != null && shelf[q] != null && sort[p] != sort[q], -2);
            refuseIf(shelf[p] == null || shelf[q] == null, -3);
            refuseIf(n < 0, -4);
            long[] from = (long[]) shelf[p], to = (long[]) shelf[q];
            refuseIf(i < 0 || j < 0 || (long) i + n > from.length || (long) j + n > to.length, -5);
            long[] ahead = from.clone();
            for (int k = 0; k < n; k++) to[j + k] = ahead[i + k];
            return 1;
        });
    }
    long element(int s, int i) {
        if (noShelf(s) || !(shelf[s] instanceof long[])) return 0;
        long[] r = (long[]) shelf[s];
        return i < 0 || i >= r.length ? 0 : r[i];
    }
    long show(int s, int man) {
        return near(() -> {
            refuseIf(noShelf(s) || man != NONE && noMan(man), -1);
            shelf[s] = man == NONE ? null : (Object) man;
            return man == NONE ? 0 : 1;
        });
    }
    long holds(int s) {
        if (noShelf(s) || shelf[s] == null) return NONE;
        return shelf[s] instanceof Integer ? (Integer) shelf[s] : 100 + sort[s];
    }
    private static boolean is(Courtier c, int kind) {
        Class<?>[] of = {Courtier.class, Spy.class, Deaf.class, Ear.class, Slipped.class, Half.class, Twice.class};
        return of[kind].isInstance(c);
    }
    long says(int s, int kind) {
        return near(() -> {
            refuseIf(noShelf(s) || kind < 0 || kind > 6, -1);
            refuseIf(shelf[s] instanceof long[], -2);
            refuseIf(shelf[s] == null, -3);
            Courtier c = now.men.get((Integer) shelf[s]);
            refuseIf(!is(c, kind), -2);
            int n = now.saying.size();
            if (kind == 0) return c.from;
            if (kind == 1 || kind == 3) return c.his(n).size() - c.plain(n).size();
            if (kind == 2 || kind == 5) return c.plain(n).size() - c.his(n).size();
            List<Integer> l = c.his(n);
            l.removeAll(c.plain(n));
            return l.size();
        });
    }

    // ---- the court
    long man(int kind, int a, int from) {
        return near(() -> {
            refuseIf(kind < 0 || kind > 6, -1);
            refuseIf(a < 0 || a > 9 || from < 0 || from > 2, -6);
            refuseIf(now.men.size() == 8, -7);
            now.men.add(born(kind, a, from, now.men.size()));
            return now.men.size() - 1;
        });
    }
    private static int bits(Iterable<Integer> set) {
        int b = 0;
        for (int i : set) b |= 1 << i;
        return b;
    }
    long manOf(int man, int what) {
        return near(() -> {
            refuseIf(noMan(man) || what < 0 || what > 5, -5);
            Courtier c = now.men.get(man);
            int[] all = {c.kind, c.a, c.from, c.his(now.saying.size()).size(), bits(c.meets), c.hits};
            return all[what];
        });
    }
    private static boolean link(State st, int x, int y, boolean is) {
        TreeSet<Integer> mx = st.men.get(x).meets, my = st.men.get(y).meets;
        boolean did = mx.contains(y);
        if (is) { mx.add(y); my.add(x); } else { mx.remove(y); my.remove(x); }
        return did;
    }
    long meet(int man, int other, boolean is) {
        return near(() -> {
            refuseIf(noMan(man) || noMan(other), -1);
            refuseIf(man == other, -6);
            return link(now, man, other, is) ? 1 : 0;
        });
    }
    private static boolean isWord(long v) { int w = (int) v; return w >= 0 && w <= 39; }
    private static int firstWrong(long[] r, int n) {
        for (int i = 0; i < n; i++) if (!isWord(r[i])) return i;
        return NONE;
    }
    private static List<Integer> words(long[] r, int n) {
        List<Integer> l = new ArrayList<>();
        for (int i = 0; i < n; i++) l.add((int) r[i]);
        return l;
    }
    long say(int s, int n) {
        return near(() -> {
            long[] r = rowIn(s);
            refuseIf(n < 0, -4); refuseIf(n > r.length, -5); refuseIf(n > 30 || firstWrong(r, n) != NONE, -6);
            now.saying = words(r, n);
            return n;
        });
    }
    long word(int place) {
        return near(() -> {
            refuseIf(place < 0 || place >= now.saying.size(), -5);
            return now.saying.get(place);
        });
    }

    // ---- courts from texts
    private static final class Fault extends RuntimeException {
        final int place;
        Fault(int place) { super(null, null, false, false); this.place = place; }
    }
    /** Texts are cut into runs of letters, digits and single other signs, with the places they begin at. */
    private static final class Text {
        final int[] signs;
        int at;
        Text(int[] signs) { this.signs = signs; }
        boolean ended() { return at == signs.length; }
        void want(char c) { if (ended() || signs[at] != c) throw new Fault(at); at++; }
        int number(int most) {
            want(' ');
            int begin = at;
            StringBuilder b = new StringBuilder();
            while (!ended() && b.length() < 2 && signs[at] >= '0' && signs[at] <= '9') b.append((char) signs[at++]);
            if (b.length() == 0) throw new Fault(at);
            int v = Integer.parseInt(b.toString());
            if (v > most) throw new Fault(begin);
            return v;
        }
    }
    private static void item(Text t, State st) {
        int begin = t.at;
        String[] all = {"man", "meet", "part", "word", "hush"};
        List<String> left = new ArrayList<>(Arrays.asList(all));
        String found = null;
        while (found == null) {
            int depth = t.at - begin;
            if (t.ended()) throw new Fault(t.at);
            int sign = t.signs[t.at];
            left.removeIf(w -> w.charAt(depth) != sign);
            if (left.isEmpty()) throw new Fault(t.at);
            t.at++;
            if (left.size() == 1 && left.get(0).length() == depth + 1) found = left.get(0);
        }
        int men = st.men.size();
        switch (found) {
            case "man": {
                if (men == 8) throw new Fault(begin);
                int k = t.number(6), a = t.number(9), f = t.number(2);
                st.men.add(born(k, a, f, men));
                return;
            }
            case "meet":
            case "part": {
                int x = t.number(men - 1);
                int before = t.at + 1;
                int y = t.number(men - 1);
                if (x == y) throw new Fault(before);
                link(st, x, y, found.equals("meet"));
                return;
            }
            case "word": {
                if (st.saying.size() == 30) throw new Fault(begin);
                st.saying.add(t.number(39));
                return;
            }
            default: st.saying.clear();
        }
    }
    long court(int s) {
        return near(() -> {
            long[] r = rowIn(s);
            int[] signs = new int[r.length];
            for (int i = 0; i < r.length; i++) signs[i] = (int) r[i];
            Text t = new Text(signs);
            State told = now.twin();
            int items = 0;
            try {
                do {
                    if (items > 0) t.want(';');
                    item(t, told);
                    items++;
                } while (!t.ended());
            } catch (Fault f) {
                faultAt = f.place;
                throw new Refused(-6);
            }
            faultAt = NONE;
            now = told;
            return items;
        });
    }
    long fault() { return faultAt; }

    // ---- what is heard
    long hears(int man, int place) {
        return near(() -> {
            refuseIf(noMan(man), -1); refuseIf(place < 0 || place >= now.saying.size(), -5);
            return now.men.get(man).his(now.saying.size()).contains(place) ? 1 : 0;
        });
    }
    private static int sense(List<Integer> heard) {
        for (int i = 0; i < heard.size(); i++) {
            if (heard.get(i) % 4 != 0) continue;
            for (int j = i + 1; j < heard.size(); j++) {
                if (heard.get(j) % 4 != 1) continue;
                for (int k = j + 1; k < heard.size(); k++) {
                    if (heard.get(k) % 4 != 0) continue;
                    long nots = heard.subList(i, k).stream().filter(w -> w % 4 == 2).count();
                    return heard.get(i) / 4 * 100 + heard.get(j) / 4 * 10 + heard.get(k) / 4 + (nots % 2 == 1 ? 1000 : 0);
                }
            }
        }
        return NONE;
    }
    private static List<Integer> heard(List<Integer> saying, Iterable<Integer> places) {
        List<Integer> l = new ArrayList<>();
        for (int p : new TreeSet<>(toList(places))) l.add(saying.get(p));
        return l;
    }
    private static List<Integer> toList(Iterable<Integer> it) {
        List<Integer> l = new ArrayList<>();
        for (int i : it) l.add(i);
        return l;
    }
    private int wholeNow() { return sense(now.saying); }
    /** Known of all behind r rounds, where those away and the one lost meeting don't count. */
    private List<TreeSet<Integer>> knownBehind(int r, int away, int x, int y) {
        List<TreeSet<Integer>> k = new ArrayList<>();
        for (Courtier c : now.men) k.add(new TreeSet<>(c.his(now.saying.size())));
        for (int round = 0; round < r; round++) {
            List<TreeSet<Integer>> next = new ArrayList<>();
            for (Courtier c : now.men) {
                TreeSet<Integer> mine = new TreeSet<>(k.get(c.number));
                for (int o : c.meets) {
                    if ((away >> c.number & 1) == 1 || (away >> o & 1) == 1) continue;
                    if (c.number == x && o == y || c.number == y && o == x) continue;
                    mine.addAll(k.get(o));
                }
                next.add(mine);
            }
            k = next;
        }
        return k;
    }
    private int senseBehind(int man, int r, int away, int x, int y) {
        return sense(heard(now.saying, knownBehind(r, away, x, y).get(man)));
    }
    long sense(int man, int r) {
        return far(() -> {
            refuseIf(noMan(man), -1); refuseIf(r < 0 || r > 9, -6);
            return senseBehind(man, r, 0, -1, -1);
        });
    }
    long whole() { return wholeNow(); }
    long known(int man, int r) {
        return near(() -> {
            refuseIf(noMan(man), -1); refuseIf(r < 0 || r > 9, -6);
            return knownBehind(r, 0, -1, -1).get(man).size();
        });
    }
    long belief(int man) {
        return far(() -> { refuseIf(noMan(man), -1); return now.men.get(man).belief; });
    }

    // ---- what comes of it
    private boolean noSet(int set) { return set < 0 || set >= 1 << now.men.size(); }
    private TreeSet<Integer> union(int set) {
        TreeSet<Integer> all = new TreeSet<>();
        for (Courtier c : now.men) if ((set >> c.number & 1) == 1) all.addAll(c.his(now.saying.size()));
        return all;
    }
    long together(int set, int what) {
        return far(() -> {
            refuseIf(what < 0 || what > 2, -5); refuseIf(noSet(set), -6);
            TreeSet<Integer> t = union(set);
            int sense = sense(heard(now.saying, t));
            if (what == 0) return sense;
            if (what == 1) return now.saying.size() - t.size();
            List<Integer> filled = new ArrayList<>(now.saying);
            for (int p = 0; p < filled.size(); p++) if (!t.contains(p)) filled.set(p, 3);
            boolean sure = sense(filled) == sense;
            for (int p = 0; p < filled.size(); p++) {
                if (t.contains(p)) continue;
                for (int w = 0; w < 3; w++) {
                    List<Integer> other = new ArrayList<>(filled);
                    other.set(p, w);
                    sure &= sense(other) == sense;
                }
            }
            return sure ? 1 : 0;
        });
    }
    private static List<Integer> setsByFewest(int n) {
        List<Integer> sets = new ArrayList<>();
        for (int s = 0; s < 1 << n; s++) sets.add(s);
        sets.sort((p, q) -> Integer.bitCount(p) != Integer.bitCount(q)
            ? Integer.bitCount(p) - Integer.bitCount(q) : p - q);
        return sets;
    }
    long cover() {
        for (int set : setsByFewest(now.men.size())) if (union(set).size() == now.saying.size()) return set;
        return NONE;
    }
    long ask(int set) {
        return far(() -> {
            refuseIf(noSet(set), -6);
            int best = NONE, most = 0;
            for (Courtier c : now.men) {
                if ((set >> c.number & 1) == 1) continue;
                List<Integer> more = c.his(now.saying.size());
                more.removeAll(union(set));
                if (more.size() > most) { most = more.size(); best = c.number; }
            }
            return best;
        });
    }
    private int soonOf(int man, int away) {
        if (wholeNow() == NONE) return NONE;
        for (int r = 0; r <= 9; r++) if (senseBehind(man, r, away, -1, -1) == wholeNow()) return r;
        return NONE;
    }
    long soon(int man) { return far(() -> { refuseIf(noMan(man), -1); return soonOf(man, 0); }); }
    long wrongOnes(int r) {
        return near(() -> {
            refuseIf(r < 0 || r > 9, -6);
            int set = 0;
            for (Courtier c : now.men) {
                int s = senseBehind(c.number, r, 0, -1, -1);
                if (s != NONE && s != wholeNow()) set |= 1 << c.number;
            }
            return set;
        });
    }
    long apart(int man) {
        return far(() -> {
            refuseIf(noMan(man), -1);
            for (int set : setsByFewest(now.men.size())) {
                if ((set >> man & 1) == 0 && soonOf(man, set) == NONE) return set;
            }
            return NONE;
        });
    }
    long lose() {
        int best = NONE, fewest = 99;
        for (Courtier c : now.men) {
            for (int o : c.meets) {
                if (o < c.number) continue;
                int have = 0;
                for (Courtier d : now.men) {
                    if (wholeNow() != NONE && senseBehind(d.number, 9, 0, c.number, o) == wholeNow()) have++;
                }
                if (have < fewest) { fewest = have; best = 100 * c.number + o; }
            }
        }
        return best;
    }
    private static List<Integer> told(int sense) {
        if (sense == NONE) return new ArrayList<>();
        List<Integer> l = new ArrayList<>();
        l.add(sense % 1000 / 100 * 4);
        l.add(sense % 100 / 10 * 4 + 1);
        if (sense >= 1000) l.add(2);
        l.add(sense % 10 * 4);
        return l;
    }
    long speak(int one, int two, int three, int i) {
        return near(() -> {
            for (int s : new int[] {one, two, three}) refuseIf(s < -1 || s > 1999, -6);
            List<List<Integer>> rows = List.of(told(one), told(two), told(three));
            int longest = 0;
            for (List<Integer> r : rows) longest = Math.max(longest, r.size());
            List<Integer> laid = new ArrayList<>();
            for (int k = 0; k < longest; k++) for (List<Integer> r : rows) laid.add(k < r.size() ? r.get(k) : 3);
            if (i == NONE) return laid.size();
            refuseIf(i < 0 || i >= laid.size(), -5);
            return laid.get(i);
        });
    }
    long needs(int s) {
        return near(() -> {
            long[] r = rowIn(s);
            int m = now.men.size();
            refuseIf(r.length < m, -5); refuseIf(firstWrong(r, m) != NONE, -6);
            for (int length = 0; ; length++) {
                boolean enough = true;
                for (int f = 0; f < 3; f++) {
                    TreeSet<Integer> want = new TreeSet<>();
                    for (Courtier c : now.men) if (c.from == f) want.add((int) r[c.number]);
                    int places = 0;
                    for (int p = 0; p < length; p++) if (p % 3 == f) places++;
                    enough &= want.size() <= places;
                }
                if (enough) return length;
            }
        });
    }
    long count(int s, int what) {
        return far(() -> {
            long[] r = rowIn(s);
            refuseIf(what < 0 || what > 1, -5);
            List<Integer> want = words(r, r.length);
            int pairs = 0, first = NONE;
            for (int f = 0; f < 3; f++) {
                int greatest = NONE;
                for (int a = 0; a <= 30; a++) {
                    Courtier c = born(4, a, f, 0);
                    if (!heard(now.saying, c.his(now.saying.size())).equals(want)) continue;
                    pairs++;
                    greatest = a;
                }
                if (first == NONE && greatest != NONE) first = 100 * f + greatest;
            }
            return what == 0 ? pairs : first;
        });
    }
    long could(int s) {
        return near(() -> {
            long[] r = rowIn(s);
            int set = 0;
            for (Courtier c : now.men) {
                if (heard(now.saying, c.his(now.saying.size())).equals(words(r, r.length))) set |= 1 << c.number;
            }
            return set;
        });
    }
    private int haveSense(List<Integer> saying) {
        int have = 0;
        for (Courtier c : now.men) if (sense(heard(saying, c.his(saying.size()))) != NONE) have++;
        return have;
    }
    long swap() {
        int best = NONE, most = haveSense(now.saying);
        for (int i = 0; i < now.saying.size(); i++) {
            for (int j = i + 1; j < now.saying.size(); j++) {
                List<Integer> other = new ArrayList<>(now.saying);
                other.set(i, now.saying.get(j));
                other.set(j, now.saying.get(i));
                int have = haveSense(other);
                if (have > most) { most = have; best = 100 * i + j; }
            }
        }
        return best;
    }
    long judge(int s, int n) {
        return far(() -> {
            long[] r = rowIn(s);
            refuseIf(n < 0, -4); refuseIf(n > r.length, -5); refuseIf(n > 30, -6);
            return firstWrong(r, n);
        });
    }
    long would(int s, int n, int man) {
        return far(() -> {
            refuseIf(noShelf(s) || noMan(man), -1);
            long[] r = rowIn(s);
            refuseIf(n < 0, -4); refuseIf(n > r.length, -5); refuseIf(n > 30 || firstWrong(r, n) != NONE, -6);
            return sense(heard(words(r, n), now.men.get(man).his(n)));
        });
    }

    // ---- in truth
    private int hold(int r) {
        int hits = 0;
        for (Courtier c : now.men) {
            int s = senseBehind(c.number, r, 0, -1, -1);
            if (s == NONE) continue;
            c.belief = s;
            if (s == wholeNow()) { c.hits++; hits++; }
        }
        return hits;
    }
    long audience(int r) { return near(() -> { refuseIf(r < 0 || r > 9, -6); return hold(r); }); }
    private int draw(int n) {
        now.seed = (int) ((long) now.seed * 1103515245L + 12345L);
        return (int) ((now.seed & 0xffffffffL) / 65536 % n);
    }
    long reign(int n) {
        return near(() -> {
            refuseIf(n < 1 || n > 60, -6);
            int hits = 0;
            for (int i = 0; i < n; i++) {
                int length = 1 + draw(30);
                now.saying = new ArrayList<>();
                for (int k = 0; k < length; k++) now.saying.add(draw(40));
                hits += hold(0);
            }
            return hits;
        });
    }
    long seed(int v) { int old = now.seed; now.seed = v; return old; }
    long act(int man, int move, int x) {
        trace = new ArrayList<>();
        if (noMan(man) || move < 0 || move > 2) return 0;
        Courtier c = now.men.get(man);
        c.trace = trace;
        return move == 0 ? c.hears(x) : move == 1 ? c.makes(x) : c.tells(x);
    }
    long trace(int i) { return i < 0 || i >= Math.min(20, trace.size()) ? NONE : trace.get(i); }
    long image() { image = now.twin(); return now.men.size(); }
    long restore() {
        return near(() -> {
            refuseIf(image == null, -6);
            now = image.twin();
            for (int s = 0; s < 8; s++) if (shelf[s] instanceof Integer && noMan((Integer) shelf[s])) shelf[s] = null;
            return now.men.size();
        });
    }
    long status(int what) {
        if (what >= 11 && what <= 17) return refusals[what - 10];
        int meetings = 0, hits = 0, believers = 0;
        for (Courtier c : now.men) {
            meetings += c.meets.tailSet(c.number).size();
            hits += c.hits;
            believers += c.belief == NONE ? 0 : 1;
        }
        int[] all = {now.men.size(), now.saying.size(), meetings, hits, believers, now.seed, trace.size()};
        return what < 0 || what > 6 ? NONE : all[what];
    }
}

/** A saying in a court, and what comes of it when everyone hears his third word; README.md tells how to use it. */
public final class EveryonesThirdWord {
    public static final int NONE = -1;

    private static final int SHELVES = 8;
    private static final int MOST_MEN = 8;
    private static final int MOST_WORDS = 30;
    private static final int MOST_ELEMENTS = 160;
    private static final int KINDS = 7;
    private static final int MARKS = 10;
    private static final int FROMS = 3;
    private static final int WORDS = 40;
    private static final int MOST_ROUNDS = 9;
    private static final int MOST_AUDIENCES = 60;
    private static final int SENSES = 2000;
    private static final int NEGATED = 1000;

    private static final int COURTIER = 0;
    private static final int SPY = 1;
    private static final int DEAF = 2;
    private static final int EAR = 3;
    private static final int SLIPPED = 4;
    private static final int HALF = 5;
    private static final int TWICE = 6;

    private static final int NAME = 0;
    private static final int VERB = 1;
    private static final int NOT = 2;
    private static final int FILL = 3;

    private static final int FINE = 0;
    private static final int NOBODY = -1;
    private static final int OTHER = -2;
    private static final int NOTHING = -3;
    private static final int BELOW = -4;
    private static final int BEYOND = -5;
    private static final int WRONG = -6;
    private static final int ROOM = -7;
    private static final int REFUSALS = 7;
    /** Calls that may answer NONE tell a refusal this much lower, so that the two differ. */
    private static final int FAR = 10;

    /** What holds() answers of a row is this and its sort. */
    private static final int ROWS = 100;
    private static final int SORTS = 4;
    private static final int BYTES = 0;
    private static final int SHORTS = 1;
    private static final int INTS = 2;

    private static final int HEARS = 0;
    private static final int MAKES = 1;
    private static final int TELLS = 2;
    private static final int MOVES = 3;
    /** The next kind above each kind. */
    private static final int[] ABOVE = {NONE, COURTIER, COURTIER, SPY, COURTIER, DEAF, SLIPPED};
    /** The bodies of each kind: of hears, makes, tells; 0 where it has none of its own. */
    private static final int[] BODIES = {
        10, 11, 12,
        20, 0, 0,
        0, 30, 0,
        0, 40, 0,
        51, 0, 50,
        0, 0, 60,
        70, 71, 0};

    private final Court court;
    private final Court image;
    private final Shelf[] shelves;
    private final int[] refusals;
    private final Reader reader;
    private final Coaches coaches;
    private final Council council;
    private final Moves moves;
    private boolean imaged;
    private int latestFault;

    public EveryonesThirdWord() {
        court = new Court();
        image = new Court();
        shelves = new Shelf[SHELVES];
        for (int s = 0; s < SHELVES; s++) shelves[s] = new Shelf();
        refusals = new int[REFUSALS + 1];
        reader = new Reader();
        coaches = new Coaches();
        council = new Council();
        moves = new Moves();
        imaged = false;
        latestFault = NONE;
    }

    // ==== shelves and rows

    public int row(int s, int sort, int n) {
        if (!isShelf(s)) return refuse(NOBODY);
        if (n < 0) return refuse(BELOW);
        if (sort < 0 || sort >= SORTS) return refuse(WRONG);
        if (n > MOST_ELEMENTS) return refuse(ROOM);
        shelves[s].takeRow(sort, n);
        return 1;
    }

    public int set(int s, int i, long v) {
        int refusal = rowRefusal(s);
        if (refusal != FINE) return refuse(refusal);
        if (!shelves[s].has(i)) return refuse(BEYOND);
        shelves[s].put(i, v);
        return 1;
    }

    public int copy(int p, int q, int i, int j, int n) {
        if (!isShelf(p) || !isShelf(q)) return refuse(NOBODY);
        Shelf from = shelves[p];
        Shelf to = shelves[q];
        if (from.isMan() || to.isMan()) return refuse(OTHER);
        if (from.isRow() && to.isRow() && from.held != to.held) return refuse(OTHER);
        if (!from.isRow() || !to.isRow()) return refuse(NOTHING);
        if (n < 0) return refuse(BELOW);
        if (i < 0 || j < 0 || i > from.length - n || j > to.length - n) return refuse(BEYOND);
        System.arraycopy(from.elements, i, to.elements, j, n);
        return 1;
    }

    public long element(int s, int i) {
        if (!isShelf(s) || !shelves[s].isRow() || !shelves[s].has(i)) return 0;
        return shelves[s].elements[i];
    }

    public int show(int s, int man) {
        if (!isShelf(s)) return refuse(NOBODY);
        if (man == NONE) {
            shelves[s].takeNothing();
            return 0;
        }
        if (!court.isMan(man)) return refuse(NOBODY);
        shelves[s].takeMan(man);
        return 1;
    }

    public int holds(int s) {
        return isShelf(s) ? shelves[s].held : NONE;
    }

    public int says(int s, int kind) {
        if (!isShelf(s) || !isKind(kind)) return refuse(NOBODY);
        Shelf shelf = shelves[s];
        if (shelf.isRow()) return refuse(OTHER);
        if (!shelf.isMan() || !court.isMan(shelf.held)) return refuse(NOTHING);
        Man man = court.men[shelf.held];
        if (!isUnder(man.kind, kind)) return refuse(OTHER);
        return man.saysAs(kind, court.words);
    }

    // ==== the court

    public int man(int kind, int a, int from) {
        if (!isKind(kind)) return refuse(NOBODY);
        if (a < 0 || a >= MARKS || from < 0 || from >= FROMS) return refuse(WRONG);
        if (court.count >= MOST_MEN) return refuse(ROOM);
        court.addMan(kind, a, from);
        return court.count - 1;
    }

    public int manOf(int man, int what) {
        if (!court.isMan(man)) return refuse(BEYOND);
        Man he = court.men[man];
        switch (what) {
            case 0: return he.kind;
            case 1: return he.a;
            case 2: return he.from;
            case 3: return Integer.bitCount(court.his(man));
            case 4: return he.meets;
            case 5: return he.hits;
            default: return refuse(BEYOND);
        }
    }

    public int meet(int man, int other, boolean is) {
        if (!court.isMan(man) || !court.isMan(other)) return refuse(NOBODY);
        if (man == other) return refuse(WRONG);
        int did = court.doMeet(man, other) ? 1 : 0;
        court.link(man, other, is);
        return did;
    }

    public int say(int s, int n) {
        int refusal = tellRefusal(s, n);
        if (refusal != FINE) return refuse(refusal);
        Shelf row = shelves[s];
        if (n > MOST_WORDS || row.firstWrong(n) != NONE) return refuse(WRONG);
        court.hushWords();
        for (int i = 0; i < n; i++) court.addWord(row.asInt(i));
        return n;
    }

    public int word(int place) {
        if (!court.isPlace(place)) return refuse(BEYOND);
        return court.saying[place];
    }

    public int court(int s) {
        int refusal = rowRefusal(s);
        if (refusal != FINE) return refuse(refusal);
        int items = reader.readOver(court, shelves[s]);
        latestFault = reader.fault;
        return latestFault == NONE ? items : refuse(WRONG);
    }

    public int fault() {
        return latestFault;
    }

    // ==== what is heard

    public int hears(int man, int place) {
        if (!court.isMan(man)) return refuse(NOBODY);
        if (!court.isPlace(place)) return refuse(BEYOND);
        return court.his(man) >>> place & 1;
    }

    public int sense(int man, int r) {
        if (!court.isMan(man)) return refuseFar(NOBODY);
        if (!isRounds(r)) return refuseFar(WRONG);
        return court.senseOf(knownBehind(man, r));
    }

    public int whole() {
        return court.wholeSense();
    }

    public int known(int man, int r) {
        if (!court.isMan(man)) return refuse(NOBODY);
        if (!isRounds(r)) return refuse(WRONG);
        return Integer.bitCount(knownBehind(man, r));
    }

    public int belief(int man) {
        if (!court.isMan(man)) return refuseFar(NOBODY);
        return court.men[man].belief;
    }

    // ==== what comes of it

    public int together(int set, int what) {
        if (what < 0 || what > 2) return refuseFar(BEYOND);
        if (!court.isSet(set)) return refuseFar(WRONG);
        int places = council.placesHeardBy(court, set);
        if (what == 0) return court.senseOf(places);
        if (what == 1) return court.words - Integer.bitCount(places);
        return council.isSure(court, places) ? 1 : 0;
    }

    public int cover() {
        return council.fewestWhoCover(court);
    }

    public int ask(int set) {
        if (!court.isSet(set)) return refuseFar(WRONG);
        return council.nextToAsk(court, set);
    }

    public int soon(int man) {
        if (!court.isMan(man)) return refuseFar(NOBODY);
        coaches.begin(court);
        return coaches.roundsUntilWhole(court, man);
    }

    public int wrongOnes(int r) {
        if (!isRounds(r)) return refuse(WRONG);
        coaches.begin(court);
        coaches.ride(r);
        return coaches.falseOnes(court);
    }

    public int apart(int man) {
        if (!court.isMan(man)) return refuseFar(NOBODY);
        return coaches.fewestApart(court, man);
    }

    public int lose() {
        return coaches.worstLoss(court);
    }

    public int speak(int one, int two, int three, int i) {
        if (!maySpeak(one) || !maySpeak(two) || !maySpeak(three)) return refuse(WRONG);
        int longest = Math.max(ownLength(one), Math.max(ownLength(two), ownLength(three)));
        int length = FROMS * longest;
        if (i == NONE) return length;
        if (i < 0 || i >= length) return refuse(BEYOND);
        int turn = i % FROMS;
        return ownWord(turn == 0 ? one : turn == 1 ? two : three, i / FROMS);
    }

    public int needs(int s) {
        int refusal = rowRefusal(s);
        if (refusal != FINE) return refuse(refusal);
        Shelf row = shelves[s];
        if (row.length < court.count) return refuse(BEYOND);
        if (row.firstWrong(court.count) != NONE) return refuse(WRONG);
        return council.shortestFor(court, row);
    }

    public int count(int s, int what) {
        int refusal = rowRefusal(s);
        if (refusal != FINE) return refuseFar(refusal);
        if (what == 0) return council.slips(court, shelves[s]);
        if (what == 1) return council.firstSlip(court, shelves[s]);
        return refuseFar(BEYOND);
    }

    public int could(int s) {
        int refusal = rowRefusal(s);
        if (refusal != FINE) return refuse(refusal);
        return council.whoHearJust(court, shelves[s]);
    }

    public int swap() {
        return council.bestSwap(court);
    }

    public int judge(int s, int n) {
        int refusal = tellRefusal(s, n);
        if (refusal != FINE) return refuseFar(refusal);
        if (n > MOST_WORDS) return refuseFar(WRONG);
        return shelves[s].firstWrong(n);
    }

    public int would(int s, int n, int man) {
        if (!isShelf(s) || !court.isMan(man)) return refuseFar(NOBODY);
        int refusal = tellRefusal(s, n);
        if (refusal != FINE) return refuseFar(refusal);
        if (n > MOST_WORDS || shelves[s].firstWrong(n) != NONE) return refuseFar(WRONG);
        return council.senseOfTold(shelves[s], n, court.men[man].placesOf(n));
    }

    // ==== in truth

    public int audience(int r) {
        if (!isRounds(r)) return refuse(WRONG);
        return hold(r);
    }

    public int reign(int n) {
        if (n < 1 || n > MOST_AUDIENCES) return refuse(WRONG);
        int hits = 0;
        for (int i = 0; i < n; i++) {
            court.drawSaying();
            hits += hold(0);
        }
        return hits;
    }

    public int seed(int v) {
        int old = court.seed;
        court.seed = v;
        return old;
    }

    public int act(int man, int move, int x) {
        moves.forget();
        if (!court.isMan(man) || move < 0 || move >= MOVES) return 0;
        return moves.play(court.men[man], man, move, x);
    }

    public int trace(int i) {
        return moves.traced(i);
    }

    public int image() {
        image.become(court);
        imaged = true;
        return court.count;
    }

    public int restore() {
        if (!imaged) return refuse(WRONG);
        court.become(image);
        for (int s = 0; s < SHELVES; s++) {
            if (shelves[s].isMan() && !court.isMan(shelves[s].held)) shelves[s].takeNothing();
        }
        return court.count;
    }

    public int status(int what) {
        if (what > FAR && what <= FAR + REFUSALS) return refusals[what - FAR];
        switch (what) {
            case 0: return court.count;
            case 1: return court.words;
            case 2: return court.meetings();
            case 3: return court.allHits();
            case 4: return court.believers();
            case 5: return court.seed;
            case 6: return moves.ran;
            default: return NONE;
        }
    }

    // ==== what the calls share

    private int refuse(int refusal) {
        if (refusal <= NOBODY && refusal >= ROOM) refusals[-refusal]++;
        return refusal;
    }

    private int refuseFar(int refusal) {
        return refuse(refusal) - FAR;
    }

    private static boolean isShelf(int s) {
        return s >= 0 && s < SHELVES;
    }

    private static boolean isKind(int kind) {
        return kind >= 0 && kind < KINDS;
    }

    private static boolean isRounds(int r) {
        return r >= 0 && r <= MOST_ROUNDS;
    }

    /** Whether a kind is another one, or under it. */
    private static boolean isUnder(int kind, int other) {
        int at = kind;
        for (int steps = 0; steps < KINDS && isKind(at); steps++) {
            if (at == other) return true;
            at = ABOVE[at];
        }
        return false;
    }

    /** The refusal of a shelf where a row is wanted; FINE: it holds one. */
    private int rowRefusal(int s) {
        if (!isShelf(s)) return NOBODY;
        if (shelves[s].isMan()) return OTHER;
        return shelves[s].isRow() ? FINE : NOTHING;
    }

    /** As rowRefusal, and of the first n elements of the row: whether they are there. */
    private int tellRefusal(int s, int n) {
        int refusal = rowRefusal(s);
        if (refusal != FINE) return refusal;
        if (n < 0) return BELOW;
        return n > shelves[s].length ? BEYOND : FINE;
    }

    private int knownBehind(int man, int rounds) {
        coaches.begin(court);
        coaches.ride(rounds);
        return coaches.known[man];
    }

    /** An audience behind so many rounds: how many hits. */
    private int hold(int rounds) {
        coaches.begin(court);
        coaches.ride(rounds);
        return coaches.believe(court);
    }

    private static boolean maySpeak(int sense) {
        return sense >= NONE && sense < SENSES;
    }

    private static int ownLength(int sense) {
        if (sense == NONE) return 0;
        return sense >= NEGATED ? 4 : 3;
    }

    /** The i-th word of the row that tells one a sense. */
    private static int ownWord(int sense, int i) {
        int length = ownLength(sense);
        if (i >= length) return FILL;
        if (i == 0) return 4 * (sense / 100 % MARKS) + NAME;
        if (i == 1) return 4 * (sense / 10 % MARKS) + VERB;
        return i == length - 1 ? 4 * (sense % MARKS) + NAME : NOT;
    }

    /** The sense of some places (bits) of the first n words. */
    private static int senseIn(int[] words, int n, int places) {
        int first = NONE;
        int verb = NONE;
        int nots = 0;
        for (int p = 0; p < n && p < words.length; p++) {
            if ((places >>> p & 1) == 0) continue;
            int sort = words[p] % 4;
            int mark = words[p] / 4;
            if (first == NONE) {
                if (sort == NAME) first = mark;
            } else if (sort == NOT) {
                nots++;
            } else if (sort == VERB && verb == NONE) {
                verb = mark;
            } else if (sort == NAME && verb != NONE) {
                return 100 * first + 10 * verb + mark + (nots % 2 == 1 ? NEGATED : 0);
            }
        }
        return NONE;
    }

    /** The places (bits) from low to below high. */
    private static int span(int low, int high) {
        int places = 0;
        for (int p = Math.max(low, 0); p < high && p < MOST_WORDS; p++) places |= 1 << p;
        return places;
    }

    /** The places (bits) from low to below high whose remainder by 3 is that of from. */
    private static int thirds(int from, int low, int high) {
        int places = 0;
        for (int p = from % FROMS; p < high && p < MOST_WORDS; p += FROMS) {
            if (p >= low) places |= 1 << p;
        }
        return places;
    }

    /** What a courtier of a kind hears of n words. */
    private static int placesBy(int kind, int a, int from, int n) {
        int own = thirds(from, 0, n);
        switch (kind) {
            case SPY: return own | thirds(from + 1, a, n);
            case EAR: return own | span(a, n);
            case DEAF: return missing(own, a);
            case HALF: return everyOther(missing(own, a));
            case SLIPPED: return thirds(from, 0, Math.min(a, n)) | thirds(from + 1, a, n);
            case TWICE:
                return thirds(from, 0, Math.min(a, n))
                    | thirds(from + 1, a, Math.min(2 * a, n))
                    | thirds(from + 2, 2 * a, n);
            default: return own;
        }
    }

    /** Some places without the (a + 1)-th of them, and without each (a + 2)-th behind it. */
    private static int missing(int places, int a) {
        int kept = 0;
        int until = a;
        for (int p = 0; p < MOST_WORDS; p++) {
            if ((places >>> p & 1) == 0) continue;
            if (until == 0) {
                until = a + 1;
            } else {
                until--;
                kept |= 1 << p;
            }
        }
        return kept;
    }

    private static int everyOther(int places) {
        int kept = 0;
        boolean keep = true;
        for (int p = 0; p < MOST_WORDS; p++) {
            if ((places >>> p & 1) == 0) continue;
            if (keep) kept |= 1 << p;
            keep = !keep;
        }
        return kept;
    }

    /** A shelf: nothing, a row, or a courtier's number. */
    private static final class Shelf {
        /** What holds() answers of it. */
        int held = NONE;
        int length;
        final long[] elements = new long[MOST_ELEMENTS];

        boolean isRow() {
            return held >= ROWS;
        }

        boolean isMan() {
            return held >= 0 && held < ROWS;
        }

        boolean has(int i) {
            return i >= 0 && i < length;
        }

        void takeRow(int sort, int n) {
            held = ROWS + sort;
            length = n;
            for (int i = 0; i < n && i < MOST_ELEMENTS; i++) elements[i] = 0;
        }

        void takeMan(int man) {
            held = man;
            length = 0;
        }

        void takeNothing() {
            held = NONE;
            length = 0;
        }

        void put(int i, long v) {
            if (!has(i)) return;
            switch (held - ROWS) {
                case BYTES: elements[i] = (byte) v; break;
                case SHORTS: elements[i] = (short) v; break;
                case INTS: elements[i] = (int) v; break;
                default: elements[i] = v;
            }
        }

        /** An element as an int; NONE if there is none. */
        int asInt(int i) {
            return i >= 0 && i < length ? (int) elements[i] : NONE;
        }

        /** The first of the first n elements that is no word. */
        int firstWrong(int n) {
            for (int i = 0; i < n && i < length; i++) {
                int word = asInt(i);
                if (word < 0 || word >= WORDS) return i;
            }
            return NONE;
        }
    }

    private static final class Man {
        int kind;
        int a;
        int from;
        int belief = NONE;
        int hits;
        /** Whom he meets, as bits. */
        int meets;

        void begin(int hisKind, int hisA, int hisFrom) {
            kind = hisKind;
            a = hisA;
            from = hisFrom;
            belief = NONE;
            hits = 0;
            meets = 0;
        }

        void become(Man other) {
            kind = other.kind;
            a = other.a;
            from = other.from;
            belief = other.belief;
            hits = other.hits;
            meets = other.meets;
        }

        /** His places (bits) of n words. */
        int placesOf(int n) {
            return placesBy(kind, a, from, n);
        }

        /** What he says of n words when he is taken for one of a kind. */
        int saysAs(int asKind, int n) {
            int his = placesOf(n);
            int own = thirds(from, 0, n);
            switch (asKind) {
                case SPY:
                case EAR: return Integer.bitCount(his) - Integer.bitCount(own);
                case DEAF:
                case HALF: return Integer.bitCount(own) - Integer.bitCount(his);
                case SLIPPED:
                case TWICE: return Integer.bitCount(his & ~own);
                default: return from;
            }
        }
    }

    /** All that an image keeps: courtiers, meetings, the saying, the seed. */
    private static final class Court {
        final Man[] men = new Man[MOST_MEN];
        int count;
        final int[] saying = new int[MOST_WORDS];
        int words;
        int seed = 1;

        Court() {
            for (int i = 0; i < MOST_MEN; i++) men[i] = new Man();
        }

        void become(Court other) {
            for (int i = 0; i < MOST_MEN; i++) men[i].become(other.men[i]);
            count = other.count;
            System.arraycopy(other.saying, 0, saying, 0, MOST_WORDS);
            words = other.words;
            seed = other.seed;
        }

        boolean isMan(int man) {
            return man >= 0 && man < count;
        }

        boolean isPlace(int place) {
            return place >= 0 && place < words;
        }

        /** Whether these bits are courtiers, all of them. */
        boolean isSet(int set) {
            return set >>> count == 0;
        }

        void addMan(int kind, int a, int from) {
            if (count >= MOST_MEN) return;
            men[count].begin(kind, a, from);
            count++;
        }

        boolean doMeet(int one, int other) {
            return isMan(one) && (men[one].meets >>> other & 1) == 1;
        }

        void link(int one, int other, boolean is) {
            if (!isMan(one) || !isMan(other)) return;
            if (is) {
                men[one].meets |= 1 << other;
                men[other].meets |= 1 << one;
            } else {
                men[one].meets &= ~(1 << other);
                men[other].meets &= ~(1 << one);
            }
        }

        void hushWords() {
            words = 0;
        }

        void addWord(int word) {
            if (words >= MOST_WORDS) return;
            saying[words] = word;
            words++;
        }

        int his(int man) {
            return isMan(man) ? men[man].placesOf(words) : 0;
        }

        int senseOf(int places) {
            return senseIn(saying, words, places);
        }

        int wholeSense() {
            return senseOf(span(0, words));
        }

        int meetings() {
            int ends = 0;
            for (int i = 0; i < count; i++) ends += Integer.bitCount(men[i].meets);
            return ends / 2;
        }

        int allHits() {
            int hits = 0;
            for (int i = 0; i < count; i++) hits += men[i].hits;
            return hits;
        }

        int believers() {
            int some = 0;
            for (int i = 0; i < count; i++) {
                if (men[i].belief != NONE) some++;
            }
            return some;
        }

        private int drawUpper() {
            seed = seed * 1103515245 + 12345;
            return seed >>> 16;
        }

        void drawSaying() {
            hushWords();
            int length = 1 + drawUpper() % MOST_WORDS;
            for (int i = 0; i < length; i++) addWord(drawUpper() % WORDS);
        }
    }

    /** Reads a court from a row of letters. */
    private static final class Reader {
        private static final int MAN = 0;
        private static final int MEET = 1;
        private static final int PART = 2;
        private static final int WORD = 3;
        private static final int HUSH = 4;

        /** The court as the text tells it so far: nothing is told at all unless the whole text can stand. */
        private final Court trial = new Court();
        private int at;
        /** Where the latest number begins. */
        private int numberAt;
        int fault = NONE;

        /** How many items are told over a court, all or (with a fault) none of them. */
        int readOver(Court court, Shelf row) {
            trial.become(court);
            at = 0;
            fault = NONE;
            int items = 0;
            for (int i = 0; i <= MOST_ELEMENTS; i++) {
                readItem(row);
                if (fault != NONE) return 0;
                items++;
                if (at == row.length) break;
                take(row, ';');
                if (fault != NONE) return 0;
            }
            court.become(trial);
            return items;
        }

        private void readItem(Shelf row) {
            int start = at;
            int item = itemBy(row.asInt(at), row.asInt(at + 1));
            takeWord(row, wordOf(item));
            if (fault != NONE) return;
            if (lacksRoom(item)) {
                fault = start;
                return;
            }
            switch (item) {
                case MAN: readMan(row); break;
                case MEET: readMeeting(row, true); break;
                case PART: readMeeting(row, false); break;
                case WORD: readWord(row); break;
                default: trial.hushWords();
            }
        }

        /** The item that these two letters may begin. */
        private static int itemBy(int first, int second) {
            switch (first) {
                case 'm': return second == 'a' ? MAN : MEET;
                case 'p': return PART;
                case 'w': return WORD;
                default: return HUSH;
            }
        }

        private static String wordOf(int item) {
            switch (item) {
                case MAN: return "man";
                case MEET: return "meet";
                case PART: return "part";
                case WORD: return "word";
                default: return "hush";
            }
        }

        private boolean lacksRoom(int item) {
            return item == MAN && trial.count >= MOST_MEN || item == WORD && trial.words >= MOST_WORDS;
        }

        private void readMan(Shelf row) {
            int kind = takeNumber(row, KINDS);
            int a = takeNumber(row, MARKS);
            int from = takeNumber(row, FROMS);
            if (fault == NONE) trial.addMan(kind, a, from);
        }

        private void readMeeting(Shelf row, boolean is) {
            int one = takeNumber(row, trial.count);
            int other = takeNumber(row, trial.count);
            if (fault != NONE) return;
            if (one == other) fault = numberAt;
            else trial.link(one, other, is);
        }

        private void readWord(Shelf row) {
            int word = takeNumber(row, WORDS);
            if (fault == NONE) trial.addWord(word);
        }

        /** One letter, or the fault. Behind the row's end no letter fits: then its length is the fault. */
        private void take(Shelf row, int letter) {
            if (row.has(at) && row.asInt(at) == letter) at++;
            else fault = at;
        }

        private void takeWord(Shelf row, String word) {
            for (int i = 0; i < word.length() && fault == NONE; i++) take(row, word.charAt(i));
        }

        /** A blank and a number below a bound. */
        private int takeNumber(Shelf row, int bound) {
            if (fault != NONE) return 0;
            take(row, ' ');
            if (fault != NONE) return 0;
            numberAt = at;
            int number = 0;
            for (int digits = 0; digits < 2 && isDigit(row.asInt(at)); digits++) {
                number = 10 * number + row.asInt(at) - '0';
                at++;
            }
            if (at == numberAt || number >= bound) fault = numberAt;
            return number;
        }

        private static boolean isDigit(int letter) {
            return letter >= '0' && letter <= '9';
        }
    }

    /** Meetings in coaches, round by round. */
    private static final class Coaches {
        /** What each knows by now, as bits. */
        final int[] known = new int[MOST_MEN];
        private final int[] ahead = new int[MOST_MEN];
        private final int[] meets = new int[MOST_MEN];
        private int count;

        void begin(Court court) {
            count = court.count;
            for (int i = 0; i < count; i++) {
                known[i] = court.his(i);
                meets[i] = court.men[i].meets;
            }
        }

        void ride(int rounds) {
            for (int r = 0; r < rounds; r++) rideOnce();
        }

        private void rideOnce() {
            System.arraycopy(known, 0, ahead, 0, MOST_MEN);
            for (int i = 0; i < count; i++) {
                for (int j = 0; j < count; j++) {
                    if ((meets[i] >>> j & 1) == 1) known[i] |= ahead[j];
                }
            }
        }

        private void sendAway(int set) {
            for (int i = 0; i < count; i++) {
                meets[i] = (set >>> i & 1) == 1 ? 0 : meets[i] & ~set;
            }
        }

        /** Counted from what is begun, before any round. */
        int roundsUntilWhole(Court court, int man) {
            int whole = court.wholeSense();
            if (whole == NONE || !court.isMan(man)) return NONE;
            for (int r = 0; r <= MOST_ROUNDS; r++) {
                if (court.senseOf(known[man]) == whole) return r;
                rideOnce();
            }
            return NONE;
        }

        int falseOnes(Court court) {
            int whole = court.wholeSense();
            int set = 0;
            for (int i = 0; i < count; i++) {
                int sense = court.senseOf(known[i]);
                if (sense != NONE && sense != whole) set |= 1 << i;
            }
            return set;
        }

        private int howManyHaveWhole(Court court) {
            int whole = court.wholeSense();
            if (whole == NONE) return 0;
            int some = 0;
            for (int i = 0; i < count; i++) {
                if (court.senseOf(known[i]) == whole) some++;
            }
            return some;
        }

        int fewestApart(Court court, int man) {
            int best = NONE;
            int fewest = MOST_MEN;
            for (int set = 0; set < 1 << court.count; set++) {
                int size = Integer.bitCount(set);
                if ((set >>> man & 1) == 1 || size >= fewest) continue;
                begin(court);
                sendAway(set);
                if (roundsUntilWhole(court, man) == NONE) {
                    best = set;
                    fewest = size;
                }
            }
            return best;
        }

        int worstLoss(Court court) {
            int best = NONE;
            int fewest = MOST_MEN + 1;
            for (int i = 0; i < court.count; i++) {
                for (int j = i + 1; j < court.count; j++) {
                    if (!court.doMeet(i, j)) continue;
                    begin(court);
                    meets[i] &= ~(1 << j);
                    meets[j] &= ~(1 << i);
                    ride(MOST_ROUNDS);
                    int some = howManyHaveWhole(court);
                    if (some < fewest) {
                        best = 100 * i + j;
                        fewest = some;
                    }
                }
            }
            return best;
        }

        /** Who gets a sense believes it: how many hits. */
        int believe(Court court) {
            int whole = court.wholeSense();
            int hits = 0;
            for (int i = 0; i < count; i++) {
                int sense = court.senseOf(known[i]);
                if (sense == NONE) continue;
                court.men[i].belief = sense;
                if (sense == whole) {
                    court.men[i].hits++;
                    hits++;
                }
            }
            return hits;
        }
    }

    /** Questions of what is heard, what could be heard, and what other sayings would do. */
    private static final class Council {
        /** A saying other than the court's. */
        private final int[] told = new int[MOST_WORDS];
        /** What each hears, as bits. */
        private final int[] parts = new int[MOST_MEN];

        private void listen(Court court) {
            for (int i = 0; i < court.count; i++) parts[i] = court.his(i);
        }

        int placesHeardBy(Court court, int set) {
            listen(court);
            return heardByAny(set);
        }

        private int heardByAny(int set) {
            int places = 0;
            for (int i = 0; i < MOST_MEN; i++) {
                if ((set >>> i & 1) == 1) places |= parts[i];
            }
            return places;
        }

        boolean isSure(Court court, int places) {
            int n = court.words;
            int all = span(0, n);
            int sense = court.senseOf(places);
            for (int p = 0; p < n; p++) told[p] = (places >>> p & 1) == 1 ? court.saying[p] : FILL;
            for (int p = 0; p < n; p++) {
                if ((places >>> p & 1) == 1) continue;
                for (int word = NAME; word <= FILL; word++) {
                    told[p] = word;
                    if (senseIn(told, n, all) != sense) return false;
                }
            }
            return true;
        }

        int fewestWhoCover(Court court) {
            listen(court);
            int all = span(0, court.words);
            int best = NONE;
            int fewest = MOST_MEN + 1;
            for (int set = 0; set < 1 << court.count; set++) {
                int size = Integer.bitCount(set);
                if (size < fewest && heardByAny(set) == all) {
                    best = set;
                    fewest = size;
                }
            }
            return best;
        }

        int nextToAsk(Court court, int set) {
            int places = placesHeardBy(court, set);
            int best = NONE;
            int most = 0;
            for (int i = 0; i < court.count; i++) {
                if ((set >>> i & 1) == 1) continue;
                int more = Integer.bitCount(parts[i] & ~places);
                if (more > most) {
                    best = i;
                    most = more;
                }
            }
            return best;
        }

        /** The length of the shortest saying in which each hears the word that the row tells for him. */
        int shortestFor(Court court, Shelf row) {
            int longest = 0;
            for (int from = 0; from < FROMS; from++) {
                long wanted = 0;
                for (int i = 0; i < court.count; i++) {
                    if (court.men[i].from == from) wanted |= 1L << row.asInt(i);
                }
                int words = Long.bitCount(wanted);
                if (words > 0) longest = Math.max(longest, from + FROMS * (words - 1) + 1);
            }
            return longest;
        }

        private boolean isJust(Court court, int places, Shelf row) {
            if (Integer.bitCount(places) != row.length) return false;
            int i = 0;
            for (int p = 0; p < court.words; p++) {
                if ((places >>> p & 1) == 0) continue;
                if (row.asInt(i) != court.saying[p]) return false;
                i++;
            }
            return true;
        }

        private boolean slipHearsJust(Court court, int from, int a, Shelf row) {
            return isJust(court, placesBy(SLIPPED, a, from, court.words), row);
        }

        int slips(Court court, Shelf row) {
            int some = 0;
            for (int from = 0; from < FROMS; from++) {
                for (int a = 0; a <= MOST_WORDS; a++) {
                    if (slipHearsJust(court, from, a, row)) some++;
                }
            }
            return some;
        }

        int firstSlip(Court court, Shelf row) {
            for (int from = 0; from < FROMS; from++) {
                for (int a = MOST_WORDS; a >= 0; a--) {
                    if (slipHearsJust(court, from, a, row)) return 100 * from + a;
                }
            }
            return NONE;
        }

        int whoHearJust(Court court, Shelf row) {
            int set = 0;
            for (int i = 0; i < court.count; i++) {
                if (isJust(court, court.his(i), row)) set |= 1 << i;
            }
            return set;
        }

        int bestSwap(Court court) {
            int n = court.words;
            System.arraycopy(court.saying, 0, told, 0, MOST_WORDS);
            listen(court);
            int best = NONE;
            int most = howManyHaveSense(court.count, n);
            for (int i = 0; i < n; i++) {
                for (int j = i + 1; j < n; j++) {
                    // Whether there is a sense at all hangs on classes alone.
                    if (told[i] % 4 == told[j] % 4) continue;
                    exchange(i, j);
                    int some = howManyHaveSense(court.count, n);
                    exchange(i, j);
                    if (some > most) {
                        best = 100 * i + j;
                        most = some;
                    }
                }
            }
            return best;
        }

        private void exchange(int i, int j) {
            int word = told[i];
            told[i] = told[j];
            told[j] = word;
        }

        private int howManyHaveSense(int count, int n) {
            int some = 0;
            for (int i = 0; i < count; i++) {
                if (senseIn(told, n, parts[i]) != NONE) some++;
            }
            return some;
        }

        int senseOfTold(Shelf row, int n, int places) {
            for (int i = 0; i < n && i < MOST_WORDS; i++) told[i] = row.asInt(i);
            return senseIn(told, n, places);
        }
    }

    /** The moves of courtiers: which bodies run, and what they answer. */
    private static final class Moves {
        private static final int KEPT = 20;
        private static final int DEEPEST = 40;

        private final int[] trace = new int[KEPT];
        /** How many bodies ran, kept or not. */
        int ran;
        private int number;
        private int kind;
        private int a;

        void forget() {
            ran = 0;
        }

        int traced(int i) {
            return i >= 0 && i < ran && i < KEPT ? trace[i] : NONE;
        }

        int play(Man man, int hisNumber, int move, int x) {
            number = hisNumber;
            kind = man.kind;
            a = man.a;
            return run(this, kind, move, x, 0);
        }

        private void note(int body) {
            if (ran < KEPT) trace[ran] = body;
            ran++;
        }

        /** The kind itself, or the next above it, that has a body of a move. */
        private static int ownerOf(int fromKind, int move) {
            int at = fromKind;
            for (int steps = 0; steps < KINDS && isKind(at); steps++) {
                if (BODIES[MOVES * at + move] != 0) return at;
                at = ABOVE[at];
            }
            return NONE;
        }

        /** Runs the body that a move has from a kind on; depth is how many bodies stand open. */
        private static int run(Moves act, int fromKind, int move, int x, int depth) {
            int owner = ownerOf(fromKind, move);
            if (owner == NONE || depth > DEEPEST) return 0;
            int body = BODIES[MOVES * owner + move];
            int above = ABOVE[owner];
            int deeper = depth + 1;
            act.note(body);
            switch (body) {
                case 10: return x + act.number;
                case 11: return run(act, act.kind, HEARS, x, deeper) * 2;
                case 12: return run(act, act.kind, MAKES, x, deeper) ^ run(act, act.kind, HEARS, x - act.a, deeper);
                case 20: return run(act, above, HEARS, x, deeper) + act.a;
                case 30: return run(act, above, MAKES, x, deeper) * 3;
                case 40: return run(act, above, MAKES, x + 1, deeper);
                case 50: return -run(act, above, TELLS, x, deeper);
                case 51: return run(act, above, HEARS, x, deeper) - act.number;
                case 60: return run(act, above, TELLS, x, deeper) ^ 5;
                case 70: return run(act, above, HEARS, x, deeper) * 2;
                case 71: return run(act, above, MAKES, x - act.a, deeper);
                default: return 0;
            }
        }
    }
}

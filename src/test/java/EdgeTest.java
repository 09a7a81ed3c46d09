/**
 * The sentences of the document that name a boundary case, in its order, each with checks of its own: the least and the
 * greatest and the one beside, the empty and the full, the wrap-arounds. Texts are in TextTest, refusals in RefusalTest.
 */
public final class EdgeTest extends Checks {
    private static final int NAME = 0, VERB = 1, NOT = 2;

    public static void main(String[] args) {
        calls();
        words();
        theSaying();
        courtiers();
        kinds();
        meetings();
        hisOfCourtiersAndSpies();
        hisOfDeafOnes();
        hisOfSlippedOnes();
        hisOfShortSayings();
        sense();
        knownBehindRounds();
        togetherAndHoles();
        sure();
        cover();
        ask();
        soonAndFalse();
        apart();
        lose();
        speak();
        needs();
        wrongCount();
        could();
        swap();
        toldSayings();
        longsTell();
        audiences();
        draws();
        reigns();
        shelves();
        sorts();
        copies();
        moves();
        trace();
        image();
        imageAndShelves();
        status();
        end("edges");
    }

    // ==== what it is

    private static void calls() {
        about("An object is used for at most 512 calls after it has been made");
        Used x = fresh();
        for (int i = 0; i < 511; i++) is("row", x.row(i % 8, i % 4, i % 161), 1);
        is("the 512th call", x.holds(510 % 8), 100 + 510 % 4);
        Used y = with(0, 0, EAR, EAR, EAR, EAR, EAR, EAR, EAR, EAR);
        say(y, 0, 1, 0);
        while (y.left() > 1) is("audience", y.audience(9), 8);
        is("hits of all audiences", y.status(3), 8 * (511 - 8 - 6));
        Used z = with(0, 0, EAR, COURTIER);
        long hits = 0;
        while (z.left() > 1) hits += z.reign(60);
        is("hits of all reigns", z.status(3), hits);
        Used w = fresh();
        while (w.left() > 1) w.seed(w.left());
        is("the last seed", w.status(5), 2);
    }

    // ==== 1. the court

    private static int wholeOf(long... words) {
        Used x = fresh();
        say(x, words);
        return x.whole();
    }

    private static void words() {
        about("WORDS are numbers (0 to 39)");
        Used x = fresh();
        put(x, 0, INTS, 0, 39, -1, 40);
        is("say", x.say(0, 2), 2);
        is("the least", x.word(0), 0);
        is("the greatest", x.word(1), 39);
        is("judge", x.judge(0, 2), NONE);
        is("below the least", x.judge(0, 4), 2);
        x.set(0, 2, 0);
        is("above the greatest", x.judge(0, 4), 3);
        about("each of a CLASS by its remainder by 4: 0 NAME, 1 VERB, 2 NOT, 3 FILL; its MARK is a fourth of it");
        for (int w = 0; w <= 39; w++) {
            int mark = w / 4;
            boolean name = w == mark * 4;
            boolean verb = w == mark * 4 + 1;
            boolean not = w == mark * 4 + 2;
            is(w + " 1 0", wholeOf(w, 1, 0), name ? 100 * mark : NONE);
            is("0 " + w + " 0", wholeOf(0, w, 0), verb ? 10 * mark : NONE);
            is("0 1 " + w, wholeOf(0, 1, w), name ? mark : NONE);
            is("0 " + w + " 1 4", wholeOf(0, w, 1, 4), verb ? 10 * mark + 1 : not ? 1001 : 1);
            is("0 1 " + w + " 4", wholeOf(0, 1, w, 4), name ? mark : not ? 1001 : 1);
        }
        is("least marks", wholeOf(0, 1, 0), 0);
        is("greatest marks", wholeOf(36, 37, 36), 999);
        is("greatest marks and a NOT", wholeOf(36, 37, 38, 36), 1999);
    }

    private static void theSaying() {
        about("THE SAYING: a row of 0 to 30 WORDS, by PLACES, 0 on");
        Used x = with(0, 0, EAR);
        is("none at first", x.status(1), 0);
        refused(x, -5, () -> x.word(0));
        refused(x, -5, () -> x.hears(0, 0));
        x.row(0, BYTES, 31);
        for (int i = 0; i < 30; i++) x.set(0, i, 39 - i);
        is("thirty", x.say(0, 30), 30);
        for (int i = 0; i < 30; i++) {
            is("word " + i, x.word(i), 39 - i);
            is("hears " + i, x.hears(0, i), 1);
        }
        refused(x, -5, () -> x.word(30));
        refused(x, -5, () -> x.hears(0, 30));
        refused(x, -6, () -> x.say(0, 31));
        is("they stay", x.status(1), 30);
        is("one", x.say(0, 1), 1);
        is("word 0", x.word(0), 39);
        refused(x, -5, () -> x.word(1));
        is("none", x.say(0, 0), 0);
        is("no words", x.status(1), 0);
        refused(x, -5, () -> x.word(0));
        about("the last of 30 PLACES");
        Used y = with(0, 0, EAR);
        long[] late = all(30, FILL);
        late[27] = 4;
        late[28] = 9;
        late[29] = 12;
        say(y, late);
        is("whole", y.whole(), 123);
        is("sense", y.sense(0, 0), 123);
        about("THE SAYING becomes the first n elements: it is not the ROW");
        Used z = fresh();
        put(z, 0, INTS, 4, 9, 12);
        z.say(0, 3);
        z.set(0, 0, 8);
        is("word", z.word(0), 4);
        z.row(0, INTS, 0);
        is("whole", z.whole(), 123);
    }

    private static void courtiers() {
        about("COURTIERS have numbers, from 0 on, 8 at most");
        Used x = fresh();
        is("none", x.status(0), 0);
        refused(x, -5, () -> x.manOf(0, 0));
        for (int i = 0; i < 8; i++) {
            is("man", x.man(COURTIER, i, i % 3), i);
            is("how many", x.status(0), i + 1);
        }
        refused(x, -7, () -> x.man(COURTIER, 0, 0));
        is("how many", x.status(0), 8);
        is("the last", x.manOf(7, 1), 7);
        refused(x, -5, () -> x.manOf(8, 0));
        about("each of a KIND, 0 to 6; a (0 to 9), FROM (0 to 2), BELIEF (NONE at first), HITS (0 at first)");
        for (int kind = 0; kind <= 6; kind++) {
            for (int a = 0; a <= 9; a += 9) {
                for (int from = 0; from <= 2; from += 2) {
                    Used y = fresh();
                    is("man", y.man(kind, a, from), 0);
                    is("KIND", y.manOf(0, 0), kind);
                    is("a", y.manOf(0, 1), a);
                    is("FROM", y.manOf(0, 2), from);
                    is("HIS of an empty saying", y.manOf(0, 3), 0);
                    is("meets", y.manOf(0, 4), 0);
                    is("HITS", y.manOf(0, 5), 0);
                    is("BELIEF", y.belief(0), NONE);
                    refused(y, -5, () -> y.manOf(0, 6));
                    refused(y, -5, () -> y.manOf(0, -1));
                }
            }
        }
        Used z = fresh();
        refused(z, -1, () -> z.man(-1, 0, 0));
        refused(z, -1, () -> z.man(7, 0, 0));
        refused(z, -6, () -> z.man(0, -1, 0));
        refused(z, -6, () -> z.man(0, 10, 0));
        refused(z, -6, () -> z.man(0, 0, -1));
        refused(z, -6, () -> z.man(0, 0, 3));
    }

    private static void kinds() {
        about("1 SPY, 2 DEAF, 4 SLIPPED, each under COURTIER; 3 EAR, under SPY; 5 HALF, under DEAF; 6 TWICE, under SLIPPED");
        int[] under = {1 << 0, 1 << 0 | 1 << 1, 1 << 0 | 1 << 2, 1 << 0 | 1 << 1 | 1 << 3, 1 << 0 | 1 << 4,
            1 << 0 | 1 << 2 | 1 << 5, 1 << 0 | 1 << 4 | 1 << 6};
        for (int kind = 0; kind <= 6; kind++) {
            Used x = with(0, 2, kind);
            x.show(0, 0);
            for (int as = 0; as <= 6; as++) {
                int wanted = as;
                if ((under[kind] >> as & 1) == 1) is(kind + " as " + as, x.says(0, as), as == COURTIER ? 2 : 0);
                else refused(x, -2, () -> x.says(0, wanted));
            }
            refused(x, -1, () -> x.says(0, -1));
            refused(x, -1, () -> x.says(0, 7));
        }
        about("SPY, EAR how many PLACES he hears more than a COURTIER would; DEAF, HALF how many fewer; SLIPPED, TWICE how many a COURTIER wouldn't");
        says(SPY, 0, 0, 30, 10);
        says(SPY, 9, 2, 30, 7);
        says(SPY, 9, 2, 9, 0);
        says(SPY, 9, 2, 10, 1);
        says(EAR, 0, 1, 30, 20);
        says(EAR, 9, 0, 10, 0);
        says(EAR, 9, 0, 11, 1);
        says(EAR, 9, 2, 30, 14);
        says(DEAF, 0, 0, 30, 5);
        says(DEAF, 0, 0, 1, 1);
        says(DEAF, 0, 2, 2, 0);
        says(DEAF, 9, 0, 27, 0);
        says(DEAF, 9, 0, 28, 1);
        says(HALF, 0, 0, 30, 7);
        says(HALF, 9, 0, 30, 5);
        says(HALF, 9, 2, 3, 0);
        says(SLIPPED, 0, 0, 30, 10);
        says(SLIPPED, 9, 2, 9, 0);
        says(SLIPPED, 9, 2, 10, 1);
        says(TWICE, 9, 1, 30, 7);
        says(TWICE, 0, 1, 30, 10);
        says(TWICE, 9, 1, 11, 0);
        says(TWICE, 9, 1, 12, 1);
    }

    /** What one of a kind says, taken for one of it, of a saying of so many words. */
    private static void says(int kind, int a, int from, int words, int due) {
        Used x = with(a, from, kind);
        sayFill(x, words);
        x.show(7, 0);
        is("kind " + kind + ", a " + a + ", from " + from + ", of " + words, x.says(7, kind), due);
        is("as a COURTIER", x.says(7, COURTIER), from);
    }

    private static void meetings() {
        about("MEETINGS: of two COURTIERS, or not (none at first; nobody meets himself)");
        Used x = with(0, 0, 0, 0, 0, 0, 0, 0, 0, 0);
        is("none", x.status(2), 0);
        int some = 0;
        for (int i = 0; i < 8; i++) {
            int he = i;
            refused(x, -6, () -> x.meet(he, he, true));
            for (int j = i + 1; j < 8; j++) {
                is("they didn't", x.meet(j, i, true), 0);
                some++;
                is("how many", x.status(2), some);
            }
        }
        is("all meet", some, 28);
        for (int i = 0; i < 8; i++) is("whom he meets", x.manOf(i, 4), 255 - (1 << i));
        is("they did", x.meet(6, 7, true), 1);
        is("no more of them", x.status(2), 28);
        is("they did", x.meet(7, 6, false), 1);
        is("one fewer", x.status(2), 27);
        is("they didn't", x.meet(6, 7, false), 0);
        is("no fewer", x.status(2), 27);
        is("6", x.manOf(6, 4), 63);
        is("7", x.manOf(7, 4), 63);
        is("5", x.manOf(5, 4), 223);
        refused(x, -6, () -> x.meet(7, 7, false));
        refused(x, -1, () -> x.meet(7, 8, true));
        refused(x, -1, () -> x.meet(8, 8, true));
        refused(x, -1, () -> x.meet(-1, 7, false));
        Used y = fresh();
        refused(y, -1, () -> y.meet(0, 0, true));
        refused(y, -1, () -> y.meet(0, 1, true));
        is("none", y.status(2), 0);
    }

    // ==== 2. what is heard

    private static void hears(int kind, int a, int from, int words, String places) {
        Used x = with(a, from, kind);
        sayFill(x, words);
        hearsJust(x, 0, places);
    }

    private static void hisOfCourtiersAndSpies() {
        about("COURTIER: PLACES whose remainder by 3 is FROM");
        hears(COURTIER, 0, 0, 30, "0 3 6 9 12 15 18 21 24 27");
        hears(COURTIER, 9, 1, 30, "1 4 7 10 13 16 19 22 25 28");
        hears(COURTIER, 5, 2, 30, "2 5 8 11 14 17 20 23 26 29");
        about("SPY: those, and from PLACE a on those whose remainder is that of FROM and 1 (modulo 3)");
        hears(SPY, 0, 0, 30, "0 1 3 4 6 7 9 10 12 13 15 16 18 19 21 22 24 25 27 28");
        hears(SPY, 0, 2, 10, "0 2 3 5 6 8 9");
        hears(SPY, 9, 2, 13, "2 5 8 9 11 12");
        hears(SPY, 9, 0, 13, "0 3 6 9 10 12");
        hears(SPY, 4, 0, 8, "0 3 4 6 7");
        hears(SPY, 5, 0, 8, "0 3 6 7");
        hears(SPY, 9, 2, 9, "2 5 8");
        hears(SPY, 9, 2, 10, "2 5 8 9");
        about("EAR: as COURTIER, and from PLACE a on all");
        hears(EAR, 0, 2, 5, "0 1 2 3 4");
        hears(EAR, 9, 1, 30, "1 4 7 9 10 11 12 13 14 15 16 17 18 19 20 21 22 23 24 25 26 27 28 29");
        hears(EAR, 9, 0, 9, "0 3 6");
        hears(EAR, 9, 1, 9, "1 4 7");
        hears(EAR, 9, 1, 10, "1 4 7 9");
    }

    private static void hisOfDeafOnes() {
        about("DEAF: as COURTIER, without the (a and 1)-th, and each (a and 2)-th behind it, of them");
        hears(DEAF, 0, 0, 30, "3 9 15 21 27");
        hears(DEAF, 1, 0, 30, "0 6 9 15 18 24 27");
        hears(DEAF, 2, 1, 30, "1 4 10 13 16 22 25 28");
        hears(DEAF, 4, 0, 30, "0 3 6 9 15 18 21 24 27");
        hears(DEAF, 3, 2, 30, "2 5 8 14 17 20 23 29");
        hears(DEAF, 8, 2, 30, "2 5 8 11 14 17 20 23 29");
        hears(DEAF, 9, 0, 30, "0 3 6 9 12 15 18 21 24");
        hears(DEAF, 9, 2, 29, "2 5 8 11 14 17 20 23 26");
        hears(DEAF, 0, 0, 1, "");
        hears(DEAF, 1, 0, 1, "0");
        hears(DEAF, 1, 0, 4, "0");
        about("HALF: of those that DEAF hears every other one, the first on");
        hears(HALF, 0, 0, 30, "3 15 27");
        hears(HALF, 1, 0, 30, "0 9 18 27");
        hears(HALF, 9, 2, 30, "2 8 14 20 26");
        hears(HALF, 9, 0, 30, "0 6 12 18 24");
        hears(HALF, 0, 0, 3, "");
        hears(HALF, 0, 0, 4, "3");
        hears(HALF, 2, 1, 2, "1");
    }

    private static void hisOfSlippedOnes() {
        about("SLIPPED: PLACES below a as COURTIER, from a on those whose remainder is that of FROM and 1");
        hears(SLIPPED, 0, 0, 30, "1 4 7 10 13 16 19 22 25 28");
        hears(SLIPPED, 0, 2, 10, "0 3 6 9");
        hears(SLIPPED, 9, 2, 30, "2 5 8 9 12 15 18 21 24 27");
        hears(SLIPPED, 9, 0, 30, "0 3 6 10 13 16 19 22 25 28");
        hears(SLIPPED, 4, 0, 9, "0 3 4 7");
        hears(SLIPPED, 5, 0, 9, "0 3 7");
        hears(SLIPPED, 6, 0, 9, "0 3 7");
        hears(SLIPPED, 9, 2, 9, "2 5 8");
        hears(SLIPPED, 1, 0, 1, "0");
        hears(SLIPPED, 0, 0, 1, "");
        about("TWICE: below a as COURTIER, from a to below twice a those of FROM and 1, from twice a on those of FROM and 2");
        hears(TWICE, 0, 0, 30, "2 5 8 11 14 17 20 23 26 29");
        hears(TWICE, 0, 1, 10, "0 3 6 9");
        hears(TWICE, 1, 0, 9, "0 1 2 5 8");
        hears(TWICE, 1, 1, 9, "3 6");
        hears(TWICE, 9, 1, 30, "1 4 7 11 14 17 18 21 24 27");
        hears(TWICE, 9, 2, 18, "2 5 8 9 12 15");
        hears(TWICE, 9, 2, 20, "2 5 8 9 12 15 19");
        hears(TWICE, 5, 0, 12, "0 3 7 11");
        hears(TWICE, 6, 0, 9, "0 3 7");
    }

    private static void hisOfShortSayings() {
        about("HIS of a saying of 0 and of 1 WORD");
        for (int kind = 0; kind <= 6; kind++) {
            for (int from = 0; from <= 2; from++) {
                for (int a = 0; a <= 9; a += 9) {
                    hears(kind, a, from, 0, "");
                    boolean hears = kind == EAR && a == 0 || kind == SPY && a == 0 && from == 2
                        || (a == 0 ? kind == COURTIER || kind == SPY : true) && from == 0
                        || kind == SLIPPED && a == 0 && from == 2 || kind == TWICE && a == 0 && from == 1;
                    hears(kind, a, from, 1, hears ? "0" : "");
                }
            }
        }
    }

    private static void sense() {
        about("SENSE: the first NAME, the first VERB behind it, the first NAME behind that; NONE, if there are none such");
        is("nothing", wholeOf(), NONE);
        is("one word", wholeOf(0), NONE);
        is("two words", wholeOf(0, 1), NONE);
        is("three words", wholeOf(0, 1, 0), 0);
        is("no NAME behind", wholeOf(4, 8, 9), NONE);
        is("no VERB behind", wholeOf(9, 4, 8), NONE);
        is("no VERB", wholeOf(4, 8, 12), NONE);
        is("no NAME", wholeOf(1, 5, 9), NONE);
        is("the VERB ahead doesn't count", wholeOf(5, 4, 9, 12), 123);
        is("a second NAME ahead of the VERB doesn't", wholeOf(4, 36, 9, 12), 123);
        is("a second VERB doesn't", wholeOf(4, 9, 37, 12), 123);
        is("a third NAME doesn't", wholeOf(4, 9, 12, 36), 123);
        is("what is behind doesn't", wholeOf(4, 9, 12, 36, 37, 36, 2), 123);
        about("1000 more, if an odd number of NOTS lies between the two NAMES");
        is("none", wholeOf(0, 1, 0), 0);
        is("one ahead of the VERB", wholeOf(0, 2, 1, 0), 1000);
        is("one behind the VERB", wholeOf(0, 1, 38, 0), 1000);
        is("two about the VERB", wholeOf(0, 2, 1, 6, 0), 0);
        is("two", wholeOf(0, 1, 2, 2, 0), 0);
        is("three", wholeOf(0, 2, 2, 1, 2, 0), 1000);
        is("one ahead of the first NAME", wholeOf(2, 0, 1, 0), 0);
        is("one behind the last NAME", wholeOf(0, 1, 0, 2), 0);
        is("one on each side", wholeOf(2, 0, 1, 0, 2), 0);
        is("one behind a NAME that doesn't count", wholeOf(0, 0, 2, 1, 0), 1000);
        long[] nots = all(30, NOT);
        nots[0] = NAME;
        nots[1] = VERB;
        nots[29] = NAME;
        is("27 of them", wholeOf(nots), 1000);
        nots[28] = FILL;
        is("26 of them", wholeOf(nots), 0);
        about("an odd number of NOTS (in those PLACES)");
        Used x = with(0, 0, COURTIER);
        say(x, 4, 2, 2, 9, 2, 3, 2, 3, 3, 12);
        is("whole", x.whole(), 123);
        is("he hears one of four", x.sense(0, 0), 1123);
        Used y = with(0, 0, COURTIER);
        say(y, 4, 2, 3, 9, 3, 3, 12);
        is("whole", y.whole(), 1123);
        is("he hears none of one", y.sense(0, 0), 123);
    }

    /** Eight who meet in a row, 0 - 1 - .. - 7; the last alone hears the verb. */
    private static Used chain() {
        Used x = fresh();
        for (int i = 0; i < 7; i++) x.man(COURTIER, 0, 0);
        x.man(EAR, 0, 1);
        for (int i = 0; i < 7; i++) x.meet(i, i + 1, true);
        say(x, 4, 9, 2, 12);
        return x;
    }

    private static void knownBehindRounds() {
        about("KNOWN behind r ROUNDS (0 to 9): behind 0: HIS; each ROUND, all at once");
        Used x = chain();
        for (int r = 0; r <= 9; r++) {
            for (int m = 0; m < 7; m++) {
                is(m + " behind " + r, x.known(m, r), r >= 7 - m ? 4 : 2);
                is("sense of " + m + " behind " + r, x.sense(m, r), r >= 7 - m ? 1123 : NONE);
            }
        }
        is("7 behind 0", x.known(7, 0), 4);
        is("7 behind 9", x.known(7, 9), 4);
        refused(x, -6, () -> x.known(0, -1));
        refused(x, -6, () -> x.known(0, 10));
        refused(x, -16, () -> x.sense(0, -1));
        refused(x, -16, () -> x.sense(0, 10));
        refused(x, -1, () -> x.known(8, 0));
        refused(x, -11, () -> x.sense(8, 0));
        Used first = reversed();
        for (int m = 0; m < 8; m++) {
            for (int r = 0; r <= 9; r++) is("to " + m + " behind " + r, first.known(m, r), r >= m ? 4 : 2);
        }
        about("KNOWN of one who meets nobody, and of an empty saying");
        Used y = with(0, 0, COURTIER, EAR);
        is("nothing", y.known(1, 9), 0);
        is("no sense", y.sense(1, 9), NONE);
        sayFill(y, 30);
        is("his", y.known(0, 9), 10);
        is("his", y.known(1, 0), 30);
        y.meet(0, 1, true);
        is("his, behind 0", y.known(0, 0), 10);
        is("all, behind 1", y.known(0, 1), 30);
        y.meet(1, 0, false);
        is("his, for they meet no more", y.known(0, 1), 10);
    }

    // ==== 3. what comes of it

    private static Used thirds() {
        return fresh3(COURTIER, COURTIER, COURTIER);
    }

    /** One from 0, one from 1, one from 2. */
    private static Used fresh3(int first, int second, int third) {
        Used x = fresh();
        x.man(first, 0, 0);
        x.man(second, 0, 1);
        x.man(third, 0, 2);
        return x;
    }

    private static void togetherAndHoles() {
        about("TOGETHER of some COURTIERS (bits); HOLES: how many PLACES none of them hears");
        Used x = fresh();
        is("nobody, of nothing", x.together(0, 0), NONE);
        is("no holes", x.together(0, 1), 0);
        is("sure of nothing", x.together(0, 2), 1);
        refused(x, -16, () -> x.together(1, 0));
        Used y = thirds();
        is("of nothing", y.together(7, 1), 0);
        sayFill(y, 30);
        int[] holes = {30, 20, 20, 10, 20, 10, 10, 0};
        for (int set = 0; set < 8; set++) is("holes of " + set, y.together(set, 1), holes[set]);
        say(y, 4, 9, 2, 12);
        int[] senses = {NONE, NONE, NONE, 123, NONE, NONE, NONE, 1123};
        for (int set = 0; set < 8; set++) is("sense of " + set, y.together(set, 0), senses[set]);
        refused(y, -16, () -> y.together(8, 1));
        refused(y, -16, () -> y.together(-1, 1));
        refused(y, -15, () -> y.together(7, 3));
        refused(y, -15, () -> y.together(7, -1));
        refused(y, -15, () -> y.together(8, 3));
        Used z = with(0, 0, 0, 0, 0, 0, 0, 0, 0, EAR);
        sayFill(z, 30);
        is("the last alone", z.together(128, 1), 0);
        is("all but the last", z.together(127, 1), 20);
        is("all eight", z.together(255, 1), 0);
        refused(z, -16, () -> z.together(256, 1));
    }

    /** Whether those of some thirds (bits) would be sure of a saying. */
    private static void sureOf(int set, int due, long... words) {
        Used x = thirds();
        say(x, words);
        is("sure of " + java.util.Arrays.toString(words) + " by " + set, x.together(set, 2), due);
    }

    private static void sure() {
        about("SURE: if all HOLES were FILL, and also if any one of them were NAME, VERB or NOT, and all others FILL");
        sureOf(0, 1);
        sureOf(7, 1, 4, 9, 12);
        sureOf(7, 1, 4, 9);
        sureOf(6, 0, 3, 1, 0);
        sureOf(5, 0, 0, 3, 0);
        sureOf(3, 0, 0, 1, 3);
        sureOf(3, 0, 0, 1, 3, 0);
        about("SURE: HOLES ahead of the sense, in it");
        sureOf(3, 0, 4, 9, 3, 12, 3, 3);
        sureOf(7, 1, 4, 9, 3, 12, 3, 3);
        sureOf(6, 0, 3, 4, 9, 3, 12);
        sureOf(3, 0, 3, 4, 3, 9, 12);
        sureOf(6, 1, 3, 3, 3);
        about("SURE: a HOLE behind the sense");
        Used ear = with(0, 0, COURTIER, EAR);
        say(ear, 4, 9, 12, 1, 0, 2);
        is("by the EAR", ear.together(2, 2), 1);
        is("by the COURTIER, who lacks the last NAME", ear.together(1, 2), 0);
        Used twice = with(1, 0, TWICE);
        say(twice, 4, 9, 12, 36, 37, 3, 38, 36);
        hearsJust(twice, 0, "0 1 2 5");
        is("HOLES behind the sense alone", twice.together(1, 2), 1);
        is("they are four", twice.together(1, 1), 4);
        Used late = with(3, 0, TWICE);
        say(late, 4, 3, 3, 3, 9, 3, 3, 3, 12, 3, 3);
        hearsJust(late, 0, "0 4 8");
        is("holes between", late.together(1, 2), 0);
        about("SURE of a SAYING of 30 WORDS");
        Used long30 = thirds();
        long[] ends = all(30, FILL);
        ends[0] = 4;
        ends[27] = 9;
        ends[28] = 12;
        say(long30, ends);
        is("all hear all", long30.together(7, 2), 1);
        is("a HOLE at the last PLACE, behind the sense, and some in it", long30.together(3, 2), 0);
        is("HOLES everywhere: one alone gives no sense", long30.together(0, 2), 1);
        Used last = with(7, 0, TWICE);
        long[] whole = all(30, FILL);
        whole[0] = 4;
        whole[3] = 9;
        say(last, whole);
        is("a NAME in a HOLE would end it", last.together(1, 2), 0);
        whole[29] = 12;
        say(last, whole);
        hearsJust(last, 0, "0 3 6 7 10 13 14 17 20 23 26 29");
        is("a NOT in a HOLE would turn it", last.together(1, 2), 0);
        Used lastHole = fresh();
        lastHole.man(EAR, 0, 0);
        lastHole.man(COURTIER, 0, 0);
        lastHole.man(COURTIER, 0, 1);
        long[] open = all(30, FILL);
        open[0] = 4;
        open[27] = 9;
        say(lastHole, open);
        is("the last PLACE could end it", lastHole.together(6, 2), 0);
        is("but not for the EAR", lastHole.together(1, 2), 1);
        about("SURE: by NAME alone, by VERB alone, by NOT alone");
        sureOf(6, 0, 3, 1, 4);
        sureOf(5, 0, 4, 3, 4);
        sureOf(3, 0, 0, 1, 3, 0);
        about("SURE: two HOLES are never filled at once");
        sureOf(1, 1, 4, 3, 3);
        sureOf(2, 1, 3, 1, 3);
        sureOf(4, 1, 3, 3, 4);
        sureOf(0, 1, 4, 9, 12);
    }

    private static void cover() {
        about("COVER: the fewest who TOGETHER hear all PLACES, of several the least as bits; NONE");
        Used x = fresh();
        is("nobody, of nothing", x.cover(), 0);
        sayFill(x, 1);
        is("nobody, of one word", x.cover(), NONE);
        Used y = with(0, 0, 0, 0, 0, 0, 0, 0, 0, 0);
        is("eight, of nothing", y.cover(), 0);
        sayFill(y, 1);
        is("the first of eight", y.cover(), 1);
        sayFill(y, 30);
        is("none of eight", y.cover(), NONE);
        Used z = with(0, 2, 0, 0, 0, 0, 0, 0, 0, EAR);
        sayFill(z, 30);
        is("the last alone", z.cover(), 128);
        sayFill(z, 2);
        is("the last alone", z.cover(), 128);
        Used w = fresh();
        int[] from = {0, 0, 1, 1, 2, 2, 0, 1};
        for (int f : from) w.man(COURTIER, 0, f);
        sayFill(w, 3);
        is("three of eight, the least", w.cover(), 1 + 4 + 16);
        sayFill(w, 2);
        is("two of eight, the least", w.cover(), 1 + 4);
        Used v = fresh();
        v.man(COURTIER, 0, 0);
        v.man(COURTIER, 0, 1);
        v.man(COURTIER, 0, 2);
        v.man(SPY, 0, 0);
        sayFill(v, 30);
        is("fewer ahead of less as bits", v.cover(), 4 + 8);
        v.man(EAR, 1, 0);
        is("one alone", v.cover(), 16);
        v.man(EAR, 1, 0);
        is("of two alone the less", v.cover(), 16);
        Used all = eachIsNeeded();
        is("all eight", all.cover(), 255);
        is("no HOLES", all.together(255, 1), 0);
        for (int i = 0; i < 8; i++) isTrue(i + " is needed", all.together(255 - (1 << i), 1) > 0);
    }

    /** Eight of whom each hears a place that none of the others does. */
    private static Used eachIsNeeded() {
        Used x = fresh();
        x.man(TWICE, 9, 2);
        x.man(TWICE, 9, 0);
        x.man(HALF, 6, 2);
        x.man(HALF, 6, 0);
        x.man(HALF, 8, 1);
        x.man(DEAF, 1, 0);
        x.man(HALF, 0, 1);
        x.man(DEAF, 1, 2);
        sayFill(x, 28);
        return x;
    }

    private static void ask() {
        about("ASK: not among them, who hears most PLACES that none of them does, of several the first; NONE: nobody hears any");
        is("nobody is there", fresh().ask(0), NONE);
        Used x = with(0, 0, 0, 0, 0, 0, 0, 0, 0, 0);
        is("of nothing", x.ask(0), NONE);
        sayFill(x, 30);
        is("the first of eight", x.ask(0), 0);
        is("behind the first none has more", x.ask(1), NONE);
        is("behind the last none has more", x.ask(128), NONE);
        is("behind all", x.ask(255), NONE);
        refused(x, -16, () -> x.ask(256));
        refused(x, -16, () -> x.ask(-1));
        Used y = with(0, 0, 0, 0, 0, 0, 0, 0, 0, SPY);
        sayFill(y, 2);
        is("the last", y.ask(0), 7);
        is("behind the last", y.ask(128), NONE);
        is("behind all but the last", y.ask(127), 7);
        sayFill(y, 1);
        is("of several the first", y.ask(0), 0);
        Used z = thirds();
        sayFill(z, 1);
        is("nobody hears any more", z.ask(1), NONE);
        is("one place", z.ask(6), 0);
        is("none of 1 and 2 hears any", z.ask(0), 0);
        is("empty set", fresh().ask(0), NONE);
        Used w = fresh();
        refused(w, -16, () -> w.ask(1));
    }

    private static void soonAndFalse() {
        about("SOON: behind how few ROUNDS (0 to 9) his SENSE is WHOLE; NONE (also if WHOLE is NONE)");
        Used x = chain();
        for (int m = 0; m < 8; m++) is("soon of " + m, x.soon(m), 7 - m);
        x.meet(3, 4, false);
        is("never", x.soon(3), NONE);
        is("as ahead", x.soon(4), 3);
        sayFill(x, 30);
        is("WHOLE is NONE", x.soon(7), NONE);
        say(x);
        is("nothing is said", x.soon(7), NONE);
        refused(x, -11, () -> x.soon(8));
        refused(x, -11, () -> x.soon(-1));
        about("FALSE of r ROUNDS: COURTIERS (bits) who have a SENSE that isn't WHOLE");
        is("nobody", fresh().wrongOnes(0), 0);
        is("nobody", fresh().wrongOnes(9), 0);
        Used y = with(0, 0, 0, 0, 0, 0, 0, 0, 0, EAR);
        for (int i = 0; i < 7; i++) y.meet(i, i + 1, true);
        say(y, 4, 2, 3, 9, 3, 3, 12);
        for (int r = 0; r <= 9; r++) is("behind " + r, y.wrongOnes(r), r > 6 ? 0 : (1 << 7 - r) - 1);
        refused(y, -6, () -> y.wrongOnes(10));
        refused(y, -6, () -> y.wrongOnes(-1));
        Used z = with(0, 0, 0, 0, 0, 0, 0, 0, 0, 0);
        say(z, 4, 2, 3, 9, 3, 3, 12);
        is("all eight", z.wrongOnes(9), 255);
        say(z, 4, 9, 12);
        is("who have none aren't wrong", z.wrongOnes(9), 0);
        sayFill(z, 30);
        is("WHOLE is NONE", z.wrongOnes(0), 0);
    }

    private static void apart() {
        about("APART: the fewest other COURTIERS, who MEET nobody then, of several the least as bits; NONE");
        Used x = with(0, 0, 0, EAR, EAR, EAR, EAR, EAR, EAR, EAR);
        say(x, 4, 9, 12);
        is("he meets nobody", x.apart(0), 0);
        for (int i = 1; i < 8; i++) x.meet(0, i, true);
        is("all seven others", x.apart(0), 254);
        is("one who has it himself", x.apart(7), NONE);
        x.meet(0, 7, false);
        is("six others", x.apart(0), 126);
        x.meet(6, 7, true);
        is("six others: 7 can't come by 6", x.apart(0), 126);
        sayFill(x, 3);
        is("it never is, if WHOLE is NONE", x.apart(0), 0);
        is("nor of an EAR", x.apart(7), 0);
        say(x);
        is("nor of nothing", x.apart(0), 0);
        refused(x, -11, () -> x.apart(8));
        refused(x, -11, () -> x.apart(-1));
        Used y = fresh();
        refused(y, -11, () -> y.apart(0));
        about("WHOLE behind no number of ROUNDS, though behind 9 it isn't");
        Used z = fresh();
        z.man(SPY, 5, 0);
        z.man(COURTIER, 0, 2);
        z.meet(0, 1, true);
        say(z, 4, 3, 2, 9, 6, 3, 12, 3, 3);
        is("whole at first", z.sense(0, 0), z.whole());
        is("not behind 9", z.sense(0, 9), 1123);
        is("nobody to be sent away helps", z.apart(0), NONE);
        about("of several the least as bits, fewer ahead of less");
        Used w = chain();
        is("one of seven", w.apart(0), 2);
        is("one of seven", w.apart(6), 128);
        is("one of seven", w.apart(4), 32);
        is("the EAR himself", w.apart(7), NONE);
        Used v = with(0, 0, COURTIER, EAR, EAR, COURTIER);
        v.meet(3, 1, true);
        v.meet(3, 2, true);
        v.meet(0, 3, true);
        say(v, 4, 9, 12);
        is("3 alone, not 1 and 2", v.apart(0), 8);
    }

    private static void lose() {
        about("LOSE: by which one MEETING less (100 times the lesser and the other); NONE: there are no MEETINGS");
        is("nobody", fresh().lose(), NONE);
        Used x = with(0, 0, 0, 0, 0, 0, 0, 0, EAR, 0);
        say(x, 4, 9, 12);
        is("no meetings", x.lose(), NONE);
        x.meet(7, 6, true);
        is("the last two", x.lose(), 607);
        x.meet(1, 0, true);
        is("which takes it from one", x.lose(), 607);
        x.meet(0, 6, true);
        is("which takes it from two", x.lose(), 6);
        x.meet(0, 6, false);
        x.meet(6, 7, false);
        is("the first two", x.lose(), 1);
        x.meet(0, 1, false);
        is("none again", x.lose(), NONE);
        about("LOSE: of several the first");
        Used y = with(0, 0, 0, 0, 0, 0, 0, 0, 0, 0);
        for (int i = 0; i < 8; i++) for (int j = i + 1; j < 8; j++) y.meet(i, j, true);
        is("nobody has it", y.lose(), 1);
        say(y, 4, 3, 3, 9, 3, 3, 12);
        is("all have it, whatever is lost", y.lose(), 1);
        y.meet(0, 1, false);
        is("the first that is left", y.lose(), 2);
        about("fewest have WHOLE behind 9 ROUNDS");
        is("the middle of the row", reversed().lose(), 1);
        Used z = chain();
        is("all but the EAR lose it by 6 and 7", z.lose(), 607);
        Used w = with(0, 0, COURTIER, COURTIER, EAR);
        w.meet(0, 1, true);
        w.meet(1, 2, true);
        say(w, 4, 9, 12);
        is("two lose it, not one", w.lose(), 102);
    }

    /** Eight who meet in a row, of whom the first hears all. */
    private static Used reversed() {
        Used x = fresh();
        x.man(EAR, 0, 1);
        for (int i = 1; i < 8; i++) x.man(COURTIER, 0, 0);
        for (int i = 0; i < 7; i++) x.meet(i, i + 1, true);
        say(x, 4, 9, 2, 12);
        return x;
    }

    private static void spoken(int one, int two, int three, int... words) {
        Used x = fresh();
        String of = one + ", " + two + ", " + three;
        is("how long: " + of, x.speak(one, two, three, NONE), words.length);
        for (int i = 0; i < words.length; i++) is("word " + i + " of " + of, x.speak(one, two, three, i), words[i]);
        refused(x, -5, () -> x.speak(one, two, three, words.length));
        refused(x, -5, () -> x.speak(one, two, three, -2));
    }

    private static void speak() {
        about("SPEAK of three SENSES (each 0 to 1999, or NONE); of NONE nothing; all are FILL behind, up to the longest");
        spoken(NONE, NONE, NONE);
        spoken(0, NONE, NONE, 0, 3, 3, 1, 3, 3, 0, 3, 3);
        spoken(NONE, 0, NONE, 3, 0, 3, 3, 1, 3, 3, 0, 3);
        spoken(NONE, NONE, 0, 3, 3, 0, 3, 3, 1, 3, 3, 0);
        spoken(0, 0, 0, 0, 0, 0, 1, 1, 1, 0, 0, 0);
        about("NAME, VERB, NOT, NAME, if it is 1000 at least");
        spoken(999, NONE, NONE, 36, 3, 3, 37, 3, 3, 36, 3, 3);
        spoken(1000, NONE, NONE, 0, 3, 3, 1, 3, 3, 2, 3, 3, 0, 3, 3);
        spoken(999, 1000, 1999, 36, 0, 36, 37, 1, 37, 36, 2, 2, 3, 0, 36);
        spoken(1999, 0, NONE, 36, 0, 3, 37, 1, 3, 2, 0, 3, 36, 3, 3);
        spoken(123, 1230, 312, 4, 8, 12, 9, 13, 5, 12, 2, 8, 3, 0, 3);
        about("SPEAK: senses that may not be");
        Used x = fresh();
        for (int wrong : new int[] {MIN, -2, 2000, MAX}) {
            refused(x, -6, () -> x.speak(wrong, 0, 0, 0));
            refused(x, -6, () -> x.speak(0, wrong, 0, 0));
            refused(x, -6, () -> x.speak(0, 0, wrong, 0));
            refused(x, -6, () -> x.speak(0, 0, wrong, NONE));
            refused(x, -6, () -> x.speak(NONE, NONE, wrong, 99));
        }
        refused(x, -5, () -> x.speak(0, 0, 0, MIN));
        refused(x, -5, () -> x.speak(0, 0, 0, MAX));
    }

    private static void needed(int due, int[] from, long... words) {
        Used x = fresh();
        for (int f : from) x.man(HALF, 0, f);
        put(x, 0, INTS, words);
        is("needs", x.needs(0), due);
    }

    private static void needs() {
        about("NEEDS: how long the shortest SAYING is in which each hears his, all as if they were of KIND COURTIER");
        int[] nobody = {};
        int[] first = {0, 0, 0, 0, 0, 0, 0, 0};
        int[] last = {2, 2, 2, 2, 2, 2, 2, 2};
        needed(0, nobody);
        needed(0, nobody, 40, -1);
        needed(1, new int[] {0}, 39);
        needed(2, new int[] {1}, 0);
        needed(3, new int[] {2}, 0);
        needed(1, first, 5, 5, 5, 5, 5, 5, 5, 5);
        needed(22, first, 0, 1, 2, 3, 4, 37, 38, 39);
        needed(3, last, 39, 39, 39, 39, 39, 39, 39, 39);
        needed(24, last, 0, 1, 2, 3, 32, 33, 34, 39);
        needed(6, last, 0, 32, 0, 32, 0, 32, 0, 32);
        needed(3, new int[] {0, 1, 2}, 7, 7, 7);
        needed(4, new int[] {0, 0, 1, 2}, 7, 8, 7, 7);
        about("one for each COURTIER: fewer elements are refused, more are not looked at");
        needed(3, new int[] {2}, 0, 40, -1);
        Used x = with(0, 0, 0, 0, 0, 0, 0, 0, 0, 0);
        x.row(0, INTS, 7);
        refused(x, -5, () -> x.needs(0));
        x.row(0, INTS, 8);
        is("eight elements", x.needs(0), 1);
        x.set(0, 7, 39);
        is("eight elements", x.needs(0), 4);
        x.set(0, 7, 40);
        refused(x, -6, () -> x.needs(0));
        x.set(0, 7, -1);
        refused(x, -6, () -> x.needs(0));
        x.row(0, INTS, 0);
        refused(x, -5, () -> x.needs(0));
    }

    /** Thirty different words, 9 on at 0; a row of those that stand at some places; then WRONG COUNT by it. */
    private static void counted(int many, int first, int... places) {
        Used x = fresh();
        long[] words = new long[30];
        for (int p = 0; p < 30; p++) words[p] = 9 + p;
        say(x, words);
        long[] part = new long[places.length];
        for (int i = 0; i < part.length; i++) part[i] = 9 + places[i];
        put(x, 0, INTS, part);
        is("how many", x.count(0, 0), many);
        is("the first", x.count(0, 1), first);
    }

    private static void wrongCount() {
        about("WRONG COUNT: pairs of FROM (0 to 2) and slip a (0 to 30; the greatest as if there were none); the first; NONE");
        counted(3, 30, 0, 3, 6, 9, 12, 15, 18, 21, 24, 27);
        counted(2, 0, 1, 4, 7, 10, 13, 16, 19, 22, 25, 28);
        counted(0, NONE, 0, 3, 6, 9, 12, 15, 18, 21, 24, 27, 29);
        counted(1, 28, 0, 3, 6, 9, 12, 15, 18, 21, 24, 27, 28);
        counted(0, NONE, 1, 4, 7, 10, 13, 16, 19, 22, 25, 28, 28);
        counted(1, 129, 1, 4, 7, 10, 13, 16, 19, 22, 25, 28, 29);
        counted(3, 101, 2, 5, 8, 11, 14, 17, 20, 23, 26, 29);
        counted(0, NONE, 0, 3);
        counted(1, 1, 0, 1, 4, 7, 10, 13, 16, 19, 22, 25, 28);
        counted(1, 203, 2, 3, 6, 9, 12, 15, 18, 21, 24, 27);
        counted(2, 229, 2, 5, 8, 11, 14, 17, 20, 23, 26);
        counted(1, 227, 2, 5, 8, 11, 14, 17, 20, 23, 26, 27);
        counted(0, NONE);
        empties();
    }

    private static void empties() {
        about("WRONG COUNT of an empty SAYING, of an empty ROW, of a full ROW");
        Used x = fresh();
        x.row(0, INTS, 0);
        is("all pairs", x.count(0, 0), 93);
        is("the first", x.count(0, 1), 30);
        x.row(1, INTS, 1);
        is("none", x.count(1, 0), 0);
        is("none", x.count(1, 1), NONE);
        sayFill(x, 1);
        is("one word, heard by nobody", x.count(0, 0), 31 + 1 + 30);
        is("the first", x.count(0, 1), 0);
        put(x, 1, INTS, FILL);
        is("one word, heard", x.count(1, 0), 30 + 1);
        is("the first", x.count(1, 1), 30);
        sayFill(x, 30);
        x.row(2, INTS, 160);
        is("160 elements", x.count(2, 0), 0);
        is("160 elements", x.count(2, 1), NONE);
        put(x, 2, LONGS, all(10, FILL | 1L << 32));
        is("ten of thirty", x.count(2, 1), 30);
        refused(x, -15, () -> x.count(2, 2));
        refused(x, -15, () -> x.count(2, -1));
    }

    private static void could() {
        about("COULD: COURTIERS (bits) who hear just that");
        Used x = fresh();
        x.row(0, INTS, 0);
        is("nobody", x.could(0), 0);
        for (int kind : new int[] {0, 1, 2, 3, 4, 5, 6, 0}) x.man(kind, 0, 0);
        is("all eight hear nothing", x.could(0), 255);
        x.row(1, INTS, 1);
        is("none hears one", x.could(1), 0);
        sayFill(x, 1);
        put(x, 1, INTS, FILL);
        is("who hears the one", x.could(1), 1 + 2 + 8 + 128);
        is("who hears nothing", x.could(0), 4 + 16 + 32 + 64);
        sayFill(x, 30);
        put(x, 1, INTS, all(30, FILL));
        is("the EAR alone hears thirty", x.could(1), 8);
        x.row(1, INTS, 160);
        is("none hears 160", x.could(1), 0);
        put(x, 1, INTS, all(10, FILL));
        is("who hears ten", x.could(1), 1 + 16 + 64 + 128);
        x.set(1, 9, 7);
        is("but the last is another", x.could(1), 0);
        put(x, 1, INTS, all(11, FILL));
        is("none hears eleven", x.could(1), 0);
        put(x, 1, INTS, all(9, FILL));
        is("none hears nine", x.could(1), 0);
    }

    private static void swap() {
        about("SWAP: by which exchange of two PLACES most COURTIERS would have a SENSE at all, of several the first; NONE: by none more than now");
        is("nobody, nothing", fresh().swap(), NONE);
        Used x = with(0, 0, EAR);
        is("nothing", x.swap(), NONE);
        say(x, 0);
        is("one word", x.swap(), NONE);
        say(x, 0, 1);
        is("two words", x.swap(), NONE);
        say(x, 1, 0, 0);
        is("the first two", x.swap(), 1);
        say(x, 0, 0, 1);
        is("the last two", x.swap(), 102);
        say(x, 0, 1, 0);
        is("he has one", x.swap(), NONE);
        long[] late = all(30, FILL);
        late[27] = 0;
        late[28] = 4;
        late[29] = 1;
        say(x, late);
        is("the last two of thirty", x.swap(), 2829);
        long[] ends = all(30, FILL);
        ends[0] = 1;
        ends[1] = 4;
        ends[2] = 0;
        say(x, ends);
        is("the first two of thirty", x.swap(), 1);
        Used y = with(9, 0, COURTIER, EAR);
        say(y, 3, 0, 3, 1, 3, 3, 0);
        is("the first two PLACES", y.swap(), 1);
        say(y, 3, 3, 3, 1, 3, 0, 0);
        is("the first PLACE and another", y.swap(), 5);
        Used z = fresh();
        sayFill(z, 30);
        is("nobody", z.swap(), NONE);
        about("SWAP: most, then the first");
        Used w = with(0, 0, 0, 0, 0, 0, 0, 0, 0, EAR);
        say(w, 0, 1, 3, 3, 3, 3, 0);
        is("seven more", w.swap(), 103);
        Used u = with(0, 0, COURTIER, COURTIER, COURTIER);
        u.man(COURTIER, 0, 1);
        say(u, 4, 8, 3, 3, 13, 3, 0, 3, 1);
        is("three more, not the first exchange that gives one more", u.swap(), 304);
        w.swap();
        is("nothing is changed", w.word(1) * 10 + w.word(3), 13);
    }

    private static void toldSayings() {
        about("A told SAYING: WRONG: the first element that is no WORD; NONE; n 0 to 30");
        Used x = fresh();
        put(x, 0, INTS, all(32, 39));
        is("thirty", x.judge(0, 30), NONE);
        is("none", x.judge(0, 0), NONE);
        refused(x, -16, () -> x.judge(0, 31));
        refused(x, -15, () -> x.judge(0, 33));
        refused(x, -14, () -> x.judge(0, -1));
        x.set(0, 30, 40);
        is("behind what is told", x.judge(0, 30), NONE);
        x.set(0, 29, 40);
        is("the last", x.judge(0, 30), 29);
        is("all but the last", x.judge(0, 29), NONE);
        x.set(0, 0, -1);
        is("the first", x.judge(0, 30), 0);
        is("the first", x.judge(0, 1), 0);
        is("none", x.judge(0, 0), NONE);
        x.row(1, INTS, 0);
        is("none of none", x.judge(1, 0), NONE);
        refused(x, -15, () -> x.judge(1, 1));
        about("WOULD: the SENSE of a COURTIER by it");
        Used y = with(0, 0, EAR, COURTIER);
        put(y, 0, INTS, all(31, FILL));
        y.set(0, 27, 4);
        y.set(0, 28, 9);
        y.set(0, 29, 12);
        is("of thirty", y.would(0, 30, 0), 123);
        is("of twenty-nine", y.would(0, 29, 0), NONE);
        is("of none", y.would(0, 0, 0), NONE);
        is("of a COURTIER", y.would(0, 30, 1), NONE);
        refused(y, -16, () -> y.would(0, 31, 0));
        refused(y, -15, () -> y.would(0, 32, 0));
        refused(y, -14, () -> y.would(0, -1, 0));
        refused(y, -11, () -> y.would(0, 30, 2));
        refused(y, -11, () -> y.would(0, 30, -1));
        y.set(0, 0, 40);
        refused(y, -16, () -> y.would(0, 1, 0));
        is("of none", y.would(0, 0, 0), NONE);
        is("THE SAYING stays", y.status(1), 0);
        about("WOULD goes by the PLACES of what is told, not of THE SAYING");
        Used z = with(0, 0, DEAF, EAR);
        sayFill(z, 1);
        put(z, 0, INTS, 4, 9, 12);
        is("of a told one", z.would(0, 3, 1), 123);
        put(z, 1, INTS, 3, 3, 3, 4, 3, 3, 3, 3, 3, 9, 3, 3, 3, 3, 3, 12);
        is("of a told one", z.would(1, 16, 0), 123);
        about("elements of longs by their lowest 32 bits");
        put(z, 2, LONGS, (9L << 32) + 4, (-1L << 32) + 9, (1L << 63) + 12);
        is("judge", z.judge(2, 3), NONE);
        is("would", z.would(2, 3, 1), 123);
        is("say", z.say(2, 3), 3);
        is("whole", z.whole(), 123);
        put(z, 2, LONGS, 1L << 31, 0xffffffffL);
        is("judge", z.judge(2, 2), 0);
        z.set(2, 0, 1L << 32);
        is("judge", z.judge(2, 2), 1);
    }

    private static void longsTell() {
        about("Elements of a ROW of longs count by their lowest 32 bits wherever a ROW tells something");
        Used x = with(0, 0, EAR, COURTIER);
        long high = 5L << 32;
        long low = -1L << 32;
        put(x, 0, LONGS, high + 4, low + 9, high + 12, low + 40, high - 1);
        is("say", x.say(0, 3), 3);
        is("word", x.word(1), 9);
        is("whole", x.whole(), 123);
        refused(x, -6, () -> x.say(0, 4));
        is("judge", x.judge(0, 3), NONE);
        is("judge", x.judge(0, 5), 3);
        is("would", x.would(0, 3, 0), 123);
        refused(x, -16, () -> x.would(0, 5, 0));
        is("needs", x.needs(0), 4);
        x.set(0, 1, high + 4);
        is("needs", x.needs(0), 1);
        x.set(0, 1, high + 40);
        refused(x, -6, () -> x.needs(0));
        put(x, 1, LONGS, low + 4);
        is("count", x.count(1, 0), 30);
        is("the first", x.count(1, 1), 30);
        is("could", x.could(1), 2);
        put(x, 1, LONGS, high + 4, low + 9, high + 12);
        is("could", x.could(1), 1);
        putText(x, 2, LONGS, "hush");
        x.set(2, 3, low + 'h');
        is("court", x.court(2), 1);
        is("words", x.status(1), 0);
        about("but the elements themselves are kept whole");
        is("element", x.element(1, 0), high + 4);
    }

    // ==== in truth

    private static void audiences() {
        about("an AUDIENCE behind r ROUNDS (0 to 9): who gets a SENSE has it as BELIEF; HITS is 1 more, if it is WHOLE");
        is("nobody", fresh().audience(0), 0);
        is("nobody", fresh().audience(9), 0);
        Used x = chain();
        for (int r = 0; r <= 9; r++) is("behind " + r, x.audience(r), Math.min(r, 7) + 1);
        for (int m = 0; m < 8; m++) is("hits of " + m, x.manOf(m, 5), 10 - (7 - m));
        is("hits in all", x.status(3), 3 + 4 + 5 + 6 + 7 + 8 + 9 + 10);
        is("beliefs", x.status(4), 8);
        is("belief", x.belief(0), 1123);
        refused(x, -6, () -> x.audience(-1));
        refused(x, -6, () -> x.audience(10));
        say(x);
        is("of nothing", x.audience(9), 0);
        is("belief stays", x.belief(0), 1123);
        is("beliefs stay", x.status(4), 8);
        sayFill(x, 30);
        is("of no sense", x.audience(9), 0);
        is("belief stays", x.belief(7), 1123);
        say(x, 4, 2, 3, 9, 3, 3, 8);
        is("of a sense that isn't WHOLE", x.audience(0), 1);
        is("belief of a wrong one", x.belief(0), 122);
        is("belief of the EAR", x.belief(7), 1122);
        is("hits of the wrong one stay", x.manOf(0, 5), 3);
        is("hits of the EAR", x.manOf(7, 5), 11);
        about("BELIEF of 0 is one");
        Used y = with(0, 0, EAR);
        say(y, 0, 1, 0);
        is("none yet", y.status(4), 0);
        is("audience", y.audience(0), 1);
        is("belief", y.belief(0), 0);
        is("one", y.status(4), 1);
    }

    private static int next(int seed) {
        return seed * 1103515245 + 12345;
    }

    private static void draws() {
        about("SEED (1 at first) becomes SEED times 1103515245, and 12345 (an int, wrapping); its upper 16 bits, no sign");
        Used x = fresh();
        is("at first", x.status(5), 1);
        is("what it was", x.seed(5), 1);
        is("what it is", x.status(5), 5);
        for (int seed : new int[] {MIN, MIN + 1, -1, 0, 1, 2, 65535, 65536, MAX - 1, MAX}) {
            x.seed(seed);
            is("what it was", x.seed(seed), seed);
            x.reign(1);
            int at = next(seed);
            int words = 1 + (int) ((at & 0xffffffffL) / 65536 % 30);
            is("words by SEED " + seed, x.status(1), words);
            for (int i = 0; i < words; i++) {
                at = next(at);
                is("word " + i + " by SEED " + seed, x.word(i), (at & 0xffffffffL) / 65536 % 40);
            }
            is("SEED behind it", x.status(5), at);
        }
        about("THE SAYING becomes 1 and a DRAW below 30 WORDS, each a DRAW below 40");
        is("of one", sayingByDraw(0, 1), 1);
        is("of thirty", sayingByDraw(29, 30), 30);
        about("a SEED whose upper bits are all set");
        Used y = fresh();
        y.seed(seedBefore(0xffff));
        y.reign(1);
        is("65535 by 30 leaves 15", y.status(1), 16);
        y.seed(seedBefore(0x8000));
        y.reign(1);
        is("32768 by 30 leaves 8", y.status(1), 9);
    }

    /** A seed whose draw has these upper 16 bits. */
    private static int seedBefore(int upper) {
        for (int seed = 0; seed < 1 << 24; seed++) if (next(seed) >>> 16 == upper) return seed;
        throw new IllegalStateException();
    }

    private static int sayingByDraw(int draw, int words) {
        Used x = with(0, 0, EAR);
        x.seed(seedBefore(30 * 1000 + draw));
        x.reign(1);
        is("words", x.status(1), words);
        refused(x, -5, () -> x.word(words));
        for (int i = 0; i < words; i++) isTrue("a WORD", x.word(i) >= 0 && x.word(i) <= 39);
        return x.manOf(0, 3);
    }

    private static void reigns() {
        about("A REIGN of n AUDIENCES (1 to 60)");
        Used x = with(0, 0, EAR, COURTIER);
        for (int wrong : new int[] {MIN, -1, 0, 61, MAX}) refused(x, -6, () -> x.reign(wrong));
        is("the SEED stays", x.status(5), 1);
        Used one = with(0, 0, EAR, COURTIER);
        Used all = with(0, 0, EAR, COURTIER);
        int hits = 0;
        for (int i = 0; i < 60; i++) hits += one.reign(1);
        is("60 at once are as 60 one by one", all.reign(60), hits);
        is("hits in all", one.status(3), hits);
        isTrue("an EAR has nearly all of them", hits > 30);
        is("SEED", all.status(5), one.status(5));
        is("hits", all.status(3), one.status(3));
        isTrue("the same saying", state(all).equals(state(one)));
        about("audience() and reign() answer the HITS of these alone");
        int more = all.reign(60);
        is("hits in all", all.status(3), hits + more);
        say(all, 0, 1, 0);
        is("one audience", all.audience(0), 1);
        is("hits in all", all.status(3), hits + more + 1);
        about("a REIGN of a court of nobody");
        Used nobody = fresh();
        is("reign", nobody.reign(60), 0);
        is("SEED", nobody.status(5), one.status(5));
        about("A REIGN is behind 0 ROUNDS");
        Used meet = with(0, 0, EAR, COURTIER);
        meet.meet(0, 1, true);
        is("reign", meet.reign(60), hits);
    }

    // ==== shelves

    private static void shelves() {
        about("SHELVES 0 to 7 hold NOTHING (at first), a ROW, or a COURTIER");
        Used x = with(0, 0, 0, 0, 0, 0, 0, 0, 0, 0);
        for (int s = 0; s < 8; s++) is("at first", x.holds(s), NONE);
        for (int s = 0; s < 8; s++) {
            is("row", x.row(s, s % 4, 1), 1);
            is("holds", x.holds(s), 100 + s % 4);
            is("show", x.show(s, 7 - s), 1);
            is("holds", x.holds(s), 7 - s);
            is("no elements", x.element(s, 0), 0);
            is("says", x.says(s, 0), 0);
        }
        is("show NONE", x.show(7, NONE), 0);
        is("holds", x.holds(7), NONE);
        is("show NONE again", x.show(7, NONE), 0);
        for (int s : new int[] {MIN, -1, 8, MAX}) {
            is("no such SHELF", x.holds(s), NONE);
            is("no such SHELF", x.element(s, 0), 0);
            refused(x, -1, () -> x.row(s, 0, 0));
            refused(x, -1, () -> x.show(s, 0));
            refused(x, -1, () -> x.show(s, NONE));
        }
        refused(x, -1, () -> x.show(0, 8));
        refused(x, -1, () -> x.show(0, -2));
        about("A ROW has 0 to 160 elements, 0 at first");
        Used y = fresh();
        for (int i = 0; i < 160; i++) {
            if (i == 0) y.row(0, LONGS, 160);
            is("0 at first", y.element(0, i), 0);
        }
        is("the last", y.set(0, 159, -1), 1);
        is("the first", y.set(0, 0, -2), 1);
        is("the last", y.element(0, 159), -1);
        is("none", y.element(0, 160) + y.element(0, -1) + y.element(0, MAX) + y.element(0, MIN), 0);
        refused(y, -5, () -> y.set(0, 160, 1));
        refused(y, -5, () -> y.set(0, -1, 1));
        is("a new one", y.row(0, LONGS, 160), 1);
        is("0 again", y.element(0, 0) + y.element(0, 159), 0);
        y.set(0, 1, 7);
        is("a shorter one", y.row(0, LONGS, 1), 1);
        is("no such element", y.element(0, 1), 0);
        refused(y, -5, () -> y.set(0, 1, 1));
        is("a longer one", y.row(0, LONGS, 2), 1);
        is("0 again", y.element(0, 1), 0);
        is("one of none", y.row(0, LONGS, 0), 1);
        is("holds", y.holds(0), 103);
        refused(y, -5, () -> y.set(0, 0, 1));
        refused(y, -7, () -> y.row(0, LONGS, 161));
        refused(y, -4, () -> y.row(0, LONGS, -1));
        is("it stays", y.holds(0), 103);
    }

    private static void kept(int sort, long put, long due) {
        Used x = fresh();
        x.row(3, sort, 3);
        is("set", x.set(3, 1, put), 1);
        is(put + " in a row of sort " + sort, x.element(3, 1), due);
        is("beside it", x.element(3, 0) + x.element(3, 2), 0);
    }

    private static void sorts() {
        about("a SORT (0 bytes, 1 shorts, 2 ints, 3 longs); what is put in keeps its lowest bits");
        long[] same = {0, 1, -1};
        for (int sort = 0; sort < 4; sort++) for (long v : same) kept(sort, v, v);
        kept(BYTES, 127, 127);
        kept(BYTES, 128, -128);
        kept(BYTES, -128, -128);
        kept(BYTES, -129, 127);
        kept(BYTES, 255, -1);
        kept(BYTES, 256, 0);
        kept(BYTES, Long.MAX_VALUE, -1);
        kept(BYTES, Long.MIN_VALUE, 0);
        kept(SHORTS, 32767, 32767);
        kept(SHORTS, 32768, -32768);
        kept(SHORTS, -32768, -32768);
        kept(SHORTS, -32769, 32767);
        kept(SHORTS, 65535, -1);
        kept(SHORTS, 65536, 0);
        kept(SHORTS, Long.MAX_VALUE, -1);
        kept(SHORTS, Long.MIN_VALUE, 0);
        kept(INTS, 2147483647L, 2147483647L);
        kept(INTS, 2147483648L, -2147483648L);
        kept(INTS, -2147483648L, -2147483648L);
        kept(INTS, -2147483649L, 2147483647L);
        kept(INTS, 4294967295L, -1);
        kept(INTS, 4294967296L, 0);
        kept(INTS, Long.MAX_VALUE, -1);
        kept(INTS, Long.MIN_VALUE, 0);
        kept(LONGS, Long.MAX_VALUE, Long.MAX_VALUE);
        kept(LONGS, Long.MIN_VALUE, Long.MIN_VALUE);
        kept(LONGS, 4294967296L, 4294967296L);
        about("a byte of 255 is no WORD, one of 256 is 0");
        Used x = fresh();
        put(x, 0, BYTES, 256, 255);
        is("judge", x.judge(0, 2), 1);
        is("say", x.say(0, 1), 1);
        is("word", x.word(0), 0);
        about("a short of 65536 and 39 is 39");
        put(x, 1, SHORTS, 65536 + 39);
        is("say", x.say(1, 1), 1);
        is("word", x.word(0), 39);
        about("an int of 40 is 40 in each SORT");
        for (int sort = 0; sort < 4; sort++) {
            put(x, 2, sort, 39, 40);
            is("judge", x.judge(2, 2), 1);
        }
    }

    private static void copies() {
        about("Elements i, i + 1, .. of the ROW in SHELF p, n of them, come to elements j, j + 1, .. (as they were ahead)");
        for (int sort = 0; sort < 4; sort++) {
            Used x = fresh();
            x.row(0, sort, 160);
            x.row(7, sort, 160);
            for (int i = 0; i < 160; i++) x.set(0, i, i - 80);
            is("all", x.copy(0, 7, 0, 0, 160), 1);
            is("the first", x.element(7, 0), -80);
            is("the last", x.element(7, 159), 79);
            is("the last one", x.copy(0, 7, 159, 0, 1), 1);
            is("the last one", x.element(7, 0), 79);
            is("to the end", x.copy(0, 7, 0, 159, 1), 1);
            is("to the end", x.element(7, 159), -80);
            is("none at the end", x.copy(0, 7, 160, 160, 0), 1);
            refused(x, -5, () -> x.copy(0, 7, 161, 0, 0));
            refused(x, -5, () -> x.copy(0, 7, 0, 161, 0));
            refused(x, -5, () -> x.copy(0, 7, 1, 0, 160));
            refused(x, -5, () -> x.copy(0, 7, 0, 1, 160));
            refused(x, -5, () -> x.copy(0, 7, 0, 0, 161));
            refused(x, -5, () -> x.copy(0, 7, -1, 0, 0));
            refused(x, -5, () -> x.copy(0, 7, 0, -1, 0));
            refused(x, -5, () -> x.copy(0, 7, MAX, MAX, MAX));
            refused(x, -5, () -> x.copy(0, 7, MAX, 0, 1));
            refused(x, -5, () -> x.copy(0, 7, 0, 0, MAX));
            refused(x, -4, () -> x.copy(0, 7, 0, 0, MIN));
            is("in itself, up", x.copy(0, 0, 0, 1, 159), 1);
            is("as they were ahead", x.element(0, 0) * 1000000 + x.element(0, 1) * 1000 + x.element(0, 159), -80079922);
            is("in itself, down", x.copy(0, 0, 1, 0, 159), 1);
            is("as they were ahead", x.element(0, 1), -79);
        }
        about("ROWS of none");
        Used y = fresh();
        y.row(0, BYTES, 0);
        y.row(1, BYTES, 0);
        is("none", y.copy(0, 1, 0, 0, 0), 1);
        refused(y, -5, () -> y.copy(0, 1, 0, 0, 1));
        refused(y, -4, () -> y.copy(0, 1, 0, 0, -1));
    }

    // ==== moves

    private static void acts(int kind, int a, int number, int move, int x, int due, int... bodies) {
        Used o = fresh();
        for (int i = 0; i < number; i++) o.man(COURTIER, 0, 0);
        o.man(kind, a, 0);
        is("kind " + kind + ", move " + move + " with " + x, o.act(number, move, x), due);
        is("how many bodies", o.status(6), bodies.length);
        for (int i = 0; i < bodies.length; i++) is("body " + i, o.trace(i), bodies[i]);
        is("no more bodies", o.trace(bodies.length), NONE);
    }

    private static void moves() {
        about("MOVES of COURTIERS, with x (wrapping)");
        acts(COURTIER, 0, 0, 0, MAX, MAX, 10);
        acts(COURTIER, 0, 7, 0, MAX, MIN + 6, 10);
        acts(COURTIER, 0, 1, 0, MIN, MIN + 1, 10);
        acts(COURTIER, 0, 0, 1, MAX, -2, 11, 10);
        acts(COURTIER, 0, 0, 1, MIN, 0, 11, 10);
        acts(COURTIER, 9, 0, 2, MIN, MAX - 8, 12, 11, 10, 10);
        acts(COURTIER, 0, 7, 2, MAX, MIN + 12 ^ MIN + 6 ^ MIN, 12, 11, 10, 10);
        acts(SPY, 9, 7, 0, MAX, MIN + 15, 20, 10);
        acts(SPY, 9, 7, 1, MAX, 30, 11, 20, 10);
        acts(DEAF, 0, 0, 1, MAX, -6, 30, 11, 10);
        acts(DEAF, 0, 0, 1, 1 << 30, MIN, 30, 11, 10);
        acts(EAR, 0, 0, 1, MAX, 0, 40, 11, 20, 10);
        acts(EAR, 0, 1, 1, MAX, 2, 40, 11, 20, 10);
        acts(SLIPPED, 0, 7, 0, MAX, MAX, 51, 10);
        acts(SLIPPED, 0, 7, 0, MIN, MIN, 51, 10);
        acts(SLIPPED, 0, 0, 2, MIN, MIN, 50, 12, 11, 51, 10, 51, 10);
        acts(HALF, 0, 0, 2, MAX, -6 ^ MAX ^ 5, 60, 12, 30, 11, 10, 10);
        acts(TWICE, 0, 7, 0, MAX, -2, 70, 51, 10);
        acts(TWICE, 0, 7, 0, MIN, 0, 70, 51, 10);
        acts(TWICE, 9, 0, 1, MIN, -36, 71, 11, 70, 51, 10);
        acts(TWICE, 9, 7, 2, MIN, -(-36 ^ -18), 50, 12, 71, 11, 70, 51, 10, 70, 51, 10);
        about("0 hears, 1 makes, 2 tells; m the number, k its a: the least and the greatest");
        acts(SPY, 0, 0, 0, 0, 0, 20, 10);
        acts(SPY, 9, 7, 0, 0, 16, 20, 10);
        acts(SPY, 9, 7, 2, 0, 32 ^ 7, 12, 11, 20, 10, 20, 10);
        acts(EAR, 9, 7, 2, 0, 34 ^ 7, 12, 40, 11, 20, 10, 20, 10);
        acts(SLIPPED, 9, 7, 2, 0, -(0 ^ -9), 50, 12, 11, 51, 10, 51, 10);
    }

    private static void trace() {
        about("THE TRACE: the bodies that ran in the latest act(); NONE: none such");
        Used x = fresh();
        is("no act() yet", x.trace(0), NONE);
        is("no bodies", x.status(6), 0);
        for (int i = 0; i < 8; i++) x.man(TWICE, 1, 0);
        x.act(7, 2, 3);
        is("bodies", x.status(6), 10);
        is("the first", x.trace(0), 50);
        is("the last", x.trace(9), 10);
        for (int i : new int[] {MIN, -1, 10, 19, 20, 21, MAX}) is("trace(" + i + ")", x.trace(i), NONE);
        x.act(7, 0, 3);
        is("the latest alone", x.status(6), 3);
        is("behind it", x.trace(3), NONE);
        x.row(9, 0, 0);
        x.image();
        x.restore();
        is("it stays", x.trace(0), 70);
        about("0, and no TRACE then: no such COURTIER, move");
        int[][] none = {{8, 0}, {-1, 0}, {0, 3}, {0, -1}, {MAX, 2}, {MIN, 2}, {7, MAX}, {7, MIN}};
        for (int[] of : none) {
            x.act(7, 2, 3);
            is("act", x.act(of[0], of[1], 3), 0);
            is("bodies", x.status(6), 0);
            is("trace", x.trace(0), NONE);
        }
        Used y = fresh();
        is("nobody", y.act(0, 0, 5), 0);
        for (int what = 11; what < 18; what++) is("nothing is refused", y.status(what), 0);
    }

    // ==== the image, and how many

    private static void image() {
        about("THE IMAGE; -6 there is none");
        Used x = with(3, 1, COURTIER);
        refused(x, -6, x::restore);
        refused(x, -6, x::restore);
        is("image", x.image(), 1);
        is("restore", x.restore(), 1);
        about("THE IMAGE of nobody, and of eight");
        Used y = fresh();
        is("image", y.image(), 0);
        for (int i = 0; i < 8; i++) y.man(i % 7, i, i % 3);
        for (int i = 0; i < 7; i++) y.meet(i, i + 1, true);
        sayFill(y, 30);
        y.seed(9);
        is("restore", y.restore(), 0);
        is("nobody", y.status(0) + y.status(1) + y.status(2), 0);
        is("SEED", y.status(5), 1);
        Used z = chain();
        z.seed(MIN);
        z.audience(9);
        is("image", z.image(), 8);
        String before = state(z);
        z.reign(5);
        for (int i = 0; i < 7; i++) z.meet(i, i + 1, false);
        is("restore", z.restore(), 8);
        isTrue("all is as THE IMAGE has it", state(z).equals(before));
        about("All is as THE IMAGE has it, also what was taken away since, and again");
        Used w = with(0, 0, EAR, COURTIER);
        w.meet(0, 1, true);
        say(w, 4, 9, 12);
        w.audience(0);
        is("image", w.image(), 2);
        String as = state(w);
        for (int i = 0; i < 3; i++) {
            w.meet(0, 1, false);
            w.man(HALF, 9, 2);
            w.meet(1, 2, true);
            say(w, 0, 1, 0);
            w.audience(9);
            w.seed(i);
            isTrue("it is another", !state(w).equals(as));
            is("restore", w.restore(), 2);
            isTrue("it is as it was", state(w).equals(as));
        }
        is("a new one", w.man(HALF, 9, 2), 2);
        is("meets nobody", w.manOf(2, 4) + w.manOf(2, 5), 0);
        is("has no belief", w.belief(2), NONE);
        is("a later IMAGE", w.image(), 3);
        is("restore", w.restore(), 3);
        is("SEED", w.seed(5), 1);
    }

    private static void imageAndShelves() {
        about("SHELVES with COURTIERS hold those of these numbers, or NOTHING");
        Used x = with(0, 0, COURTIER, SPY);
        x.show(0, 1);
        x.image();
        for (int i = 2; i < 8; i++) x.man(COURTIER, 0, 2);
        for (int s = 0; s < 8; s++) x.show(s, s);
        is("restore", x.restore(), 2);
        is("0", x.holds(0), 0);
        is("1", x.holds(1), 1);
        for (int s = 2; s < 8; s++) is("NOTHING", x.holds(s), NONE);
        is("1 is that of THE IMAGE", x.says(1, SPY), 0);
        refused(x, -3, () -> x.says(2, COURTIER));
        for (int i = 2; i < 8; i++) x.man(COURTIER, 0, 2);
        for (int s = 0; s < 8; s++) x.show(s, 7 - s);
        is("restore", x.restore(), 2);
        for (int s = 0; s < 6; s++) is("NOTHING", x.holds(s), NONE);
        is("1", x.holds(6), 1);
        is("0", x.holds(7), 0);
        about("THE IMAGE of all but SHELVES (and THE IMAGE, REFUSALS, the FAULT, THE TRACE)");
        Used y = with(4, 0, COURTIER, TWICE);
        y.image();
        put(y, 0, LONGS, Long.MAX_VALUE);
        y.show(1, 1);
        y.man(COURTIER, 0, 0);
        y.act(1, 0, 6);
        unfit(y, "hush;", 5);
        is("restore", y.restore(), 2);
        is("a ROW stays", y.holds(0), 103);
        is("with its elements", y.element(0, 0), Long.MAX_VALUE);
        is("a COURTIER", y.holds(1), 1);
        is("the FAULT stays", y.fault(), 5);
        is("THE TRACE stays", y.trace(0), 70);
        is("bodies stay", y.status(6), 3);
        is("REFUSALS stay", y.status(16), 1);
        is("THE IMAGE stays", y.restore(), 2);
    }

    private static void status() {
        about("status: 0 COURTIERS, 1 WORDS, 2 MEETINGS, 3 HITS in all, 4 COURTIERS with a BELIEF, 5 SEED, 6 bodies; NONE for another what");
        Used x = fresh();
        int[] first = {0, 0, 0, 0, 0, 1, 0};
        for (int what = 0; what < 7; what++) is("status(" + what + ")", x.status(what), first[what]);
        for (int what = 11; what <= 17; what++) is("status(" + what + ")", x.status(what), 0);
        for (int what : new int[] {MIN, -17, -1, 7, 8, 9, 10, 18, 19, MAX}) is("status(" + what + ")", x.status(what), NONE);
        Used y = chain();
        sayFill(y, 30);
        y.meet(0, 7, true);
        y.act(7, 2, 0);
        int[] due = {8, 30, 8, 0, 0, 1, 7};
        for (int what = 0; what < 7; what++) is("status(" + what + ")", y.status(what), due[what]);
        y.seed(-9);
        is("SEED", y.status(5), -9);
    }
}

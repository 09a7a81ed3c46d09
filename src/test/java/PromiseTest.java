/** Each promise of the document: ordinary calls, some edges and some wrong calls. EdgeTest, TextTest and RefusalTest have more of these. */
public final class PromiseTest extends Checks {
    /** A courtier in shelf 0, nothing in shelf 1, a row of three words in shelf 2. */
    private static Used withShelves() {
        Used x = fresh();
        x.man(0, 0, 0);
        x.show(0, 0);
        put(x, 2, 2, 0, 5, 8);
        return x;
    }

    public static void main(String[] args) {
        shelves();
        court();
        hearing();
        outcomes();
        truth();
        end("promises");
    }

    // ==== promises 1 to 8

    private static void shelves() {
        promise1();
        promise2();
        promise3();
        promise4();
        promise5and6and7();
        promise8();
    }

    private static void promise1() {
        about("1 a new object");
        Used x = fresh();
        is("NONE", EveryonesThirdWord.NONE, -1);
        for (int what = 0; what < 7; what++) is("status", x.status(what), what == 5 ? 1 : 0);
        for (int what = 11; what < 18; what++) is("status", x.status(what), 0);
        for (int s = 0; s < 8; s++) is("holds", x.holds(s), NONE);
        is("fault", x.fault(), NONE);
        is("trace", x.trace(0), NONE);
        is("whole", x.whole(), NONE);
        is("cover", x.cover(), 0);
        refused(x, -6, x::restore);
        Used y = fresh();
        y.man(0, 0, 0);
        is("another object", x.status(0), 0);
    }

    private static void promise2() {
        about("2 row");
        Used x = fresh();
        for (int sort = 0; sort < 4; sort++) {
            is("row", x.row(sort, sort, 160), 1);
            is("holds", x.holds(sort), 100 + sort);
        }
        is("row of none", x.row(7, 0, 0), 1);
        is("holds", x.holds(7), 100);
        x.set(0, 159, 9);
        x.set(0, 0, 9);
        is("a new row", x.row(0, 0, 160), 1);
        is("its elements", x.element(0, 0) + x.element(0, 159), 0);
        refused(x, -1, () -> x.row(8, 9, -1));
        refused(x, -1, () -> x.row(-1, 0, 1));
        refused(x, -4, () -> x.row(0, 9, -1));
        refused(x, -6, () -> x.row(0, 4, 161));
        refused(x, -6, () -> x.row(0, -1, 1));
        refused(x, -7, () -> x.row(0, 3, 161));
        refused(x, -7, () -> x.row(0, 3, Integer.MAX_VALUE));
        refused(x, -4, () -> x.row(0, 3, Integer.MIN_VALUE));
    }

    private static void promise3() {
        about("3 set");
        Used x = withShelves();
        long big = 0x123456789abcdef0L;
        long[] kept = {(byte) big, (short) big, (int) big, big};
        for (int sort = 0; sort < 4; sort++) {
            x.row(3, sort, 2);
            is("set", x.set(3, 1, big), 1);
            is("element", x.element(3, 1), kept[sort]);
            is("the other element", x.element(3, 0), 0);
        }
        x.row(3, 0, 1);
        x.set(3, 0, 200);
        is("a byte has a sign", x.element(3, 0), -56);
        x.set(3, 0, -129);
        is("a byte keeps its lowest bits", x.element(3, 0), 127);
        refused(x, -1, () -> x.set(8, -1, 0));
        refused(x, -1, () -> x.set(-1, 0, 0));
        refused(x, -2, () -> x.set(0, -1, 0));
        refused(x, -3, () -> x.set(1, -1, 0));
        refused(x, -5, () -> x.set(2, -1, 0));
        refused(x, -5, () -> x.set(2, 3, 0));
    }

    private static void promise4() {
        about("4 copy");
        Used x = withShelves();
        put(x, 3, 1, 1, 2, 3, 4, 5);
        put(x, 4, 1, 9, 9, 9, 9);
        put(x, 5, 3, 7);
        is("copy", x.copy(3, 4, 1, 0, 3), 1);
        is("what came", x.element(4, 0) * 1000 + x.element(4, 1) * 100 + x.element(4, 2) * 10 + x.element(4, 3), 2349);
        is("copy on itself, up", x.copy(3, 3, 0, 1, 4), 1);
        is("as they were ahead", x.element(3, 1) * 1000 + x.element(3, 2) * 100 + x.element(3, 3) * 10 + x.element(3, 4), 1234);
        is("copy on itself, down", x.copy(3, 3, 1, 0, 4), 1);
        is("as they were ahead", x.element(3, 0) * 1000 + x.element(3, 1) * 100 + x.element(3, 2) * 10 + x.element(3, 3), 1234);
        is("none, at the ends", x.copy(3, 4, 5, 4, 0), 1);
        refused(x, -1, () -> x.copy(8, 0, 0, 0, 1));
        refused(x, -1, () -> x.copy(0, -1, 0, 0, 1));
        refused(x, -2, () -> x.copy(0, 3, 0, 0, 1));
        refused(x, -2, () -> x.copy(3, 0, 0, 0, 1));
        refused(x, -2, () -> x.copy(1, 0, 0, 0, 1));
        refused(x, -2, () -> x.copy(0, 1, 0, 0, 1));
        refused(x, -2, () -> x.copy(3, 5, 0, 0, -1));
        refused(x, -3, () -> x.copy(1, 3, 0, 0, -1));
        refused(x, -3, () -> x.copy(3, 1, 0, 0, -1));
        refused(x, -3, () -> x.copy(1, 1, 0, 0, -1));
        refused(x, -4, () -> x.copy(3, 4, -1, 0, -1));
        refused(x, -5, () -> x.copy(3, 4, -1, 0, 1));
        refused(x, -5, () -> x.copy(3, 4, 0, -1, 1));
        refused(x, -5, () -> x.copy(3, 4, 3, 0, 3));
        refused(x, -5, () -> x.copy(3, 4, 0, 2, 3));
        refused(x, -5, () -> x.copy(3, 4, 6, 0, 0));
        refused(x, -5, () -> x.copy(3, 4, 0, 5, 0));
        refused(x, -5, () -> x.copy(3, 4, Integer.MAX_VALUE, 0, Integer.MAX_VALUE));
        refused(x, -5, () -> x.copy(3, 4, 0, Integer.MAX_VALUE, 2));
    }

    private static void promise5and6and7() {
        about("5 element");
        Used x = withShelves();
        is("element", x.element(2, 2), 8);
        is("none", x.element(2, 3) + x.element(2, -1) + x.element(0, 0) + x.element(1, 0) + x.element(8, 0) + x.element(-1, 0), 0);
        for (int what = 11; what < 18; what++) is("nothing is refused", x.status(what), 0);

        about("6 show");
        is("show over a row", x.show(2, 0), 1);
        is("holds", x.holds(2), 0);
        is("element", x.element(2, 0), 0);
        is("show none", x.show(2, NONE), 0);
        is("holds", x.holds(2), NONE);
        refused(x, -1, () -> x.show(8, 0));
        refused(x, -1, () -> x.show(-1, NONE));
        refused(x, -1, () -> x.show(0, 1));
        refused(x, -1, () -> x.show(0, -2));

        about("7 holds");
        is("no such shelf", x.holds(-1), NONE);
        is("no such shelf", x.holds(8), NONE);
        x.man(0, 0, 0);
        x.show(7, 1);
        is("a number", x.holds(7), 1);
        x.row(7, 2, 1);
        is("a row", x.holds(7), 102);
        is("nothing refused", x.status(11), 4);
    }

    private static void promise8() {
        about("8 says");
        Used x = fresh();
        int[] a = {0, 4, 1, 6, 5, 0, 3};
        int[] from = {2, 1, 2, 0, 1, 2, 0};
        for (int kind = 0; kind < 7; kind++) {
            x.man(kind, a[kind], from[kind]);
            x.show(kind, kind);
        }
        sayFill(x, 15);
        for (int kind = 0; kind < 7; kind++) is("as a courtier", x.says(kind, 0), from[kind]);
        is("a spy", x.says(1, 1), 4);
        is("a deaf one", x.says(2, 2), 2);
        is("an ear", x.says(3, 3), 6);
        is("an ear as a spy", x.says(3, 1), 6);
        is("a slipped one", x.says(4, 4), 4);
        is("a half", x.says(5, 5), 4);
        is("a half as a deaf one", x.says(5, 2), 4);
        is("a twice", x.says(6, 6), 4);
        is("a twice as a slipped one", x.says(6, 4), 4);
        refused(x, -2, () -> x.says(0, 1));
        refused(x, -2, () -> x.says(1, 3));
        refused(x, -2, () -> x.says(2, 5));
        refused(x, -2, () -> x.says(4, 6));
        refused(x, -2, () -> x.says(3, 2));
        refused(x, -2, () -> x.says(6, 1));
        x.row(0, 0, 1);
        x.show(1, NONE);
        refused(x, -1, () -> x.says(8, 0));
        refused(x, -1, () -> x.says(-1, 0));
        refused(x, -1, () -> x.says(0, 7));
        refused(x, -1, () -> x.says(1, -1));
        refused(x, -2, () -> x.says(0, 0));
        refused(x, -3, () -> x.says(1, 0));
    }

    // ==== promises 9 to 15

    private static void court() {
        promise9and10();
        promise11();
        promise12and13();
        promise14();
        promise15();
    }

    private static void promise9and10() {
        about("9 man");
        Used x = fresh();
        refused(x, -1, () -> x.man(7, -1, 0));
        refused(x, -1, () -> x.man(-1, 0, 0));
        refused(x, -6, () -> x.man(0, -1, 0));
        refused(x, -6, () -> x.man(0, 10, 0));
        refused(x, -6, () -> x.man(0, 0, -1));
        refused(x, -6, () -> x.man(0, 0, 3));
        for (int i = 0; i < 8; i++) is("man", x.man(i % 7, 9 - i, i % 3), i);
        refused(x, -7, () -> x.man(0, 0, 0));
        refused(x, -6, () -> x.man(0, 10, 0));
        refused(x, -1, () -> x.man(7, 0, 0));

        about("10 manOf");
        sayFill(x, 10);
        for (int i = 0; i < 8; i++) {
            is("kind", x.manOf(i, 0), i % 7);
            is("a", x.manOf(i, 1), 9 - i);
            is("from", x.manOf(i, 2), i % 3);
            is("meets", x.manOf(i, 4), 0);
            is("hits", x.manOf(i, 5), 0);
            is("belief", x.belief(i), NONE);
        }
        is("his", x.manOf(0, 3), 4);
        is("his", x.manOf(7, 3), 3);
        x.meet(0, 7, true);
        x.meet(2, 0, true);
        is("meets", x.manOf(0, 4), 132);
        is("meets", x.manOf(7, 4), 1);
        refused(x, -5, () -> x.manOf(8, 0));
        refused(x, -5, () -> x.manOf(-1, 0));
        refused(x, -5, () -> x.manOf(0, 6));
        refused(x, -5, () -> x.manOf(0, -1));
    }

    private static void promise11() {
        about("11 meet");
        Used x = fresh();
        for (int i = 0; i < 3; i++) x.man(0, 0, i);
        is("they didn't", x.meet(0, 1, true), 0);
        is("they did", x.meet(1, 0, true), 1);
        is("one meeting", x.status(2), 1);
        is("both ways", x.manOf(1, 4), 1);
        is("they did", x.meet(1, 0, false), 1);
        is("they didn't", x.meet(0, 1, false), 0);
        is("no meeting", x.status(2) + x.manOf(0, 4) + x.manOf(1, 4), 0);
        refused(x, -1, () -> x.meet(3, 3, true));
        refused(x, -1, () -> x.meet(0, 3, true));
        refused(x, -1, () -> x.meet(-1, 0, true));
        refused(x, -6, () -> x.meet(2, 2, true));
        refused(x, -6, () -> x.meet(2, 2, false));
    }

    private static void promise12and13() {
        about("12 say");
        Used x = withShelves();
        is("say", x.say(2, 2), 2);
        is("words", x.status(1), 2);
        is("word", x.word(1), 5);
        is("say all", x.say(2, 3), 3);
        is("say none", x.say(2, 0), 0);
        is("words", x.status(1), 0);
        put(x, 3, 3, (7L << 32) + 39, 40, -1);
        is("the lowest 32 bits of a long", x.say(3, 1), 1);
        is("word", x.word(0), 39);
        refused(x, -1, () -> x.say(8, -1));
        refused(x, -1, () -> x.say(-1, 0));
        refused(x, -2, () -> x.say(0, -1));
        refused(x, -3, () -> x.say(1, -1));
        refused(x, -4, () -> x.say(2, -1));
        refused(x, -5, () -> x.say(2, 4));
        refused(x, -5, () -> x.say(3, 4));
        refused(x, -6, () -> x.say(3, 2));
        x.set(3, 1, 0);
        refused(x, -6, () -> x.say(3, 3));
        x.row(4, 0, 31);
        is("thirty", x.say(4, 30), 30);
        refused(x, -6, () -> x.say(4, 31));
        refused(x, -5, () -> x.say(4, 32));

        about("13 word");
        say(x, 7, 39, 0);
        is("word", x.word(0) * 10000 + x.word(1) * 100 + x.word(2), 73900);
        refused(x, -5, () -> x.word(3));
        refused(x, -5, () -> x.word(-1));
        refused(x, -5, () -> x.word(Integer.MAX_VALUE));
    }

    private static void promise14() {
        about("14 court");
        Used x = fresh();
        stands(x, "man 6 9 2", 1);
        is("kind", x.manOf(0, 0), 6);
        is("a", x.manOf(0, 1), 9);
        is("from", x.manOf(0, 2), 2);
        stands(x, "man 00 09 02;man 1 0 0;meet 0 02;word 39;word 03;hush;word 07", 7);
        is("three", x.status(0), 3);
        is("they meet", x.manOf(2, 4), 1);
        is("one word", x.status(1), 1);
        is("word", x.word(0), 7);
        stands(x, "meet 0 1;meet 0 1;part 2 0;part 2 0;word 8", 5);
        is("they part", x.manOf(2, 4), 0);
        is("they meet", x.manOf(0, 4), 2);
        is("words", x.status(1), 2);
        stands(x, "hush", 1);
        is("words", x.status(1), 0);
        long[] longs = {(5L << 32) + 'h', 'u', 's', 'h'};
        put(x, 3, 3, longs);
        is("a row of longs", x.court(3), 1);
        x.show(0, 0);
        refused(x, -1, () -> x.court(8));
        refused(x, -1, () -> x.court(-1));
        refused(x, -2, () -> x.court(0));
        refused(x, -3, () -> x.court(1));
        is("a fault is counted", x.status(16), 0);
        unfit(x, "x", 0);
        is("a fault is counted", x.status(16), 1);
    }

    private static void promise15() {
        about("15 fault");
        Used x = fresh();
        is("none yet", x.fault(), NONE);
        unfit(x, "hush;x", 5);
        x.man(0, 0, 0);
        x.show(0, 0);
        refused(x, -2, () -> x.court(0));
        refused(x, -3, () -> x.court(1));
        refused(x, -1, () -> x.court(9));
        is("it stays when no row was come to", x.fault(), 5);
        stands(x, "hush", 1);
        is("none", x.fault(), NONE);
    }

    // ==== promises 16 to 20

    private static void hearing() {
        promise16();
        promise16Edges();
        promise17and19();
        promise18();
        promise20();
    }

    private static void promise16() {
        about("16 hears");
        Used x = fresh();
        sayFill(x, 15);
        x.man(0, 5, 1);
        hearsJust(x, 0, "1 4 7 10 13");
        x.man(1, 5, 2);
        hearsJust(x, 1, "2 5 6 8 9 11 12 14");
        x.man(3, 9, 0);
        hearsJust(x, 2, "0 3 6 9 10 11 12 13 14");
        x.man(2, 1, 0);
        hearsJust(x, 3, "0 6 9");
        x.man(5, 1, 0);
        hearsJust(x, 4, "0 9");
        x.man(4, 4, 2);
        hearsJust(x, 5, "2 6 9 12");
        x.man(6, 4, 0);
        hearsJust(x, 6, "0 3 4 7 8 11 14");
        x.man(2, 0, 1);
        hearsJust(x, 7, "4 10");
        refused(x, -1, () -> x.hears(8, 15));
        refused(x, -1, () -> x.hears(-1, 0));
        refused(x, -5, () -> x.hears(0, 15));
        refused(x, -5, () -> x.hears(0, -1));
    }

    private static void promise16Edges() {
        about("16 hears at its edges");
        Used x = fresh();
        sayFill(x, 30);
        x.man(2, 9, 2);
        hearsJust(x, 0, "2 5 8 11 14 17 20 23 26");
        x.man(2, 2, 0);
        hearsJust(x, 1, "0 3 9 12 15 21 24 27");
        x.man(5, 2, 0);
        hearsJust(x, 2, "0 9 15 24");
        x.man(6, 9, 2);
        hearsJust(x, 3, "2 5 8 9 12 15 19 22 25 28");
        x.man(6, 0, 2);
        hearsJust(x, 4, "1 4 7 10 13 16 19 22 25 28");
        x.man(4, 0, 2);
        hearsJust(x, 5, "0 3 6 9 12 15 18 21 24 27");
        x.man(1, 0, 1);
        is("a spy from 0 on", x.manOf(6, 3), 20);
        x.man(3, 0, 1);
        is("an ear from 0 on", x.manOf(7, 3), 30);
        sayFill(x, 9);
        hearsJust(x, 3, "2 5 8");
        is("an empty saying", x.row(0, 0, 0) + x.say(0, 0) + x.manOf(7, 3), 1);
    }

    /** 0 hears 4 13 8, which none of the others does; 0 - 1 - 2 meet in a row. */
    private static Used chain() {
        Used x = fresh();
        x.man(0, 0, 0);
        x.man(0, 0, 1);
        x.man(0, 0, 2);
        x.meet(0, 1, true);
        x.meet(1, 2, true);
        say(x, 4, 3, 2, 13, 3, 3, 8, 3, 3);
        return x;
    }

    private static void promise17and19() {
        about("17 sense");
        Used x = chain();
        is("0 behind 0", x.sense(0, 0), 132);
        is("1 behind 0", x.sense(1, 0), NONE);
        is("1 behind 1", x.sense(1, 1), 1132);
        is("0 behind 1", x.sense(0, 1), 132);
        is("2 behind 1", x.sense(2, 1), NONE);
        is("2 behind 2: all at once", x.sense(2, 2), 1132);
        is("0 behind 9", x.sense(0, 9), 1132);
        refused(x, -11, () -> x.sense(3, 10));
        refused(x, -11, () -> x.sense(-1, 0));
        refused(x, -16, () -> x.sense(0, 10));
        refused(x, -16, () -> x.sense(0, -1));

        about("19 known");
        is("0", x.known(0, 0), 3);
        is("0 behind 1", x.known(0, 1), 6);
        is("1 behind 1", x.known(1, 1), 9);
        is("2 behind 1", x.known(2, 1), 6);
        is("2 behind 2", x.known(2, 2), 9);
        is("2 behind 9", x.known(2, 9), 9);
        refused(x, -1, () -> x.known(3, 10));
        refused(x, -1, () -> x.known(-1, 0));
        refused(x, -6, () -> x.known(0, 10));
        refused(x, -6, () -> x.known(0, -1));
    }

    private static void wholeOf(long due, long... words) {
        Used x = fresh();
        say(x, words);
        is("whole", x.whole(), due);
    }

    private static void promise18() {
        about("18 whole");
        wholeOf(NONE);
        wholeOf(NONE, 4, 1);
        wholeOf(NONE, 1, 4, 8);
        wholeOf(0, 0, 1, 0);
        wholeOf(999, 36, 37, 36);
        wholeOf(123, 4, 9, 12);
        wholeOf(123, 1, 2, 3, 4, 3, 9, 3, 12, 2, 16);
        wholeOf(1123, 4, 2, 9, 12);
        wholeOf(1123, 4, 9, 38, 12);
        wholeOf(123, 4, 2, 9, 6, 12);
        wholeOf(1123, 4, 2, 2, 9, 2, 12);
        wholeOf(123, 2, 4, 9, 12, 2);
        wholeOf(123, 4, 0, 9, 13, 12);
        wholeOf(1123, 4, 2, 8, 9, 12);
    }

    private static void promise20() {
        about("20 belief");
        Used x = chain();
        is("none at first", x.belief(0), NONE);
        x.audience(0);
        is("a wrong one", x.belief(0), 132);
        is("who gets none", x.belief(1), NONE);
        sayFill(x, 9);
        x.audience(9);
        is("it stays", x.belief(0), 132);
        refused(x, -11, () -> x.belief(3));
        refused(x, -11, () -> x.belief(-1));
    }

    // ==== promises 21 to 34

    private static void outcomes() {
        promise21();
        promise22and23();
        promise24and25();
        promise26();
        promise27();
        promise28();
        promise29();
        promise30and31();
        promise32();
        promise33and34();
    }

    private static void promise21() {
        about("21 together");
        Used x = chain();
        is("sense of none", x.together(0, 0), NONE);
        is("sense of 0", x.together(1, 0), 132);
        is("sense of 0 and 2", x.together(5, 0), 1132);
        is("holes of none", x.together(0, 1), 9);
        is("holes of 0 and 2", x.together(5, 1), 3);
        is("holes of all", x.together(7, 1), 0);
        is("0 is not sure: a NOT may be between", x.together(1, 2), 0);
        is("all are sure", x.together(7, 2), 1);
        say(x, 4, 9, 12);
        is("sure of all", x.together(7, 2), 1);
        is("one hole: a NAME doesn't give a sense, but another", x.together(6, 2), 0);
        is("one hole: a VERB is wanted", x.together(5, 2), 0);
        say(x, 3, 3, 3);
        is("one hole gives no sense to none", x.together(0, 2), 1);
        say(x, 3, 1, 3, 3, 3, 4);
        is("nor to a NAME or a VERB that stand wrong", x.together(2, 2), 1);
        say(x, 3, 3, 0, 3, 1, 3, 3, 3, 3);
        is("but if only one is missing", x.together(6, 2), 0);
        say(x, 4, 9, 12, 1, 3, 3);
        is("holes behind the sense", x.together(7, 2), 1);
        Used y = fresh();
        y.man(3, 0, 0);
        y.man(0, 0, 0);
        say(y, 4, 9, 12, 3);
        is("the ear alone is sure", y.together(1, 2), 1);
        Used z = fresh();
        z.man(6, 2, 0);
        say(z, 4, 3, 3, 3, 13, 8, 9, 4);
        hearsJust(z, 0, "0 5");
        is("a verb alone would do", z.together(1, 2), 0);
        refused(x, -15, () -> x.together(8, 3));
        refused(x, -15, () -> x.together(0, -1));
        refused(x, -16, () -> x.together(8, 0));
        refused(x, -16, () -> x.together(-1, 2));
        refused(x, -16, () -> fresh().together(1, 0) == -16 ? x.together(15, 1) : 0);
    }

    private static void promise22and23() {
        about("22 cover");
        Used x = fresh();
        is("an empty saying", x.cover(), 0);
        sayFill(x, 9);
        is("nobody", x.cover(), NONE);
        is("nobody to ask", x.ask(0), NONE);
        x.man(0, 0, 0);
        x.man(0, 0, 1);
        x.man(1, 0, 0);
        is("not all", x.cover(), NONE);
        x.man(0, 0, 2);
        is("two", x.cover(), 12);
        x.man(0, 0, 2);
        is("the least", x.cover(), 12);
        x.man(1, 0, 1);
        is("of several the least as bits", x.cover(), 12);
        x.man(3, 0, 1);
        is("one", x.cover(), 64);
        sayFill(x, 1);
        is("one place", x.cover(), 1);

        about("23 ask");
        sayFill(x, 8);
        is("most", x.ask(0), 6);
        is("most of what is missing", x.ask(64), NONE);
        is("the first of two", x.ask(4), 3);
        is("behind 0", x.ask(1), 5);
        is("behind 0, 5, 6", x.ask(97), NONE);
        Used y = fresh();
        sayFill(y, 4);
        y.man(0, 0, 1);
        y.man(0, 0, 2);
        y.man(0, 0, 0);
        is("most", y.ask(0), 2);
        is("the first", y.ask(4), 0);
        is("then", y.ask(5), 1);
        is("none", y.ask(7), NONE);
        refused(y, -16, () -> y.ask(8));
        refused(y, -16, () -> y.ask(-1));
        refused(y, -16, () -> y.ask(Integer.MIN_VALUE));
    }

    private static void promise24and25() {
        about("24 soon");
        Used x = chain();
        is("0", x.soon(0), 2);
        is("1", x.soon(1), 1);
        is("2", x.soon(2), 2);
        x.man(3, 0, 0);
        is("at once", x.soon(3), 0);
        x.man(0, 0, 0);
        is("never", x.soon(4), NONE);
        refused(x, -11, () -> x.soon(5));
        refused(x, -11, () -> x.soon(-1));

        about("25 wrongOnes");
        is("behind 0", x.wrongOnes(0), 17);
        is("behind 1", x.wrongOnes(1), 17);
        is("behind 2", x.wrongOnes(2), 16);
        is("behind 9", x.wrongOnes(9), 16);
        refused(x, -6, () -> x.wrongOnes(10));
        refused(x, -6, () -> x.wrongOnes(-1));
        sayFill(x, 9);
        is("no whole: nobody is wrong", x.wrongOnes(9), 0);
        is("no whole: never", x.soon(3), NONE);

        about("24 soon is not for ever");
        Used y = fresh();
        y.man(1, 5, 0);
        y.man(0, 0, 2);
        y.meet(0, 1, true);
        say(y, 4, 3, 3, 9, 3, 3, 12, 3, 2);
        is("known at first", y.sense(0, 0), 123);
        is("soon", y.soon(0), 0);
        say(y, 4, 3, 2, 9, 6, 3, 12, 3, 3);
        is("whole: two NOTS", y.whole(), 123);
        is("behind 0", y.sense(0, 0), 123);
        is("behind 1", y.sense(0, 1), 1123);
        is("soon", y.soon(0), 0);
        is("one is wrong", y.wrongOnes(1), 3);
    }

    private static void promise26() {
        about("26 apart");
        Used x = chain();
        is("one must go", x.apart(0), 2);
        is("the least of several", x.apart(1), 1);
        is("the least of several", x.apart(2), 1);
        x.man(3, 0, 0);
        is("he has it himself", x.apart(3), NONE);
        x.meet(0, 3, true);
        is("two must go", x.apart(0), 10);
        x.meet(3, 2, true);
        is("two others must go", x.apart(2), 9);
        refused(x, -11, () -> x.apart(4));
        refused(x, -11, () -> x.apart(-1));
        String before = everything(x);
        x.apart(0);
        is("nothing is changed", before.equals(everything(x)) ? 1 : 0, 1);
        sayFill(x, 9);
        is("no whole: nobody must go", x.apart(3), 0);
        Used y = chain();
        y.meet(0, 1, false);
        is("never anyway", y.apart(2), 0);
    }

    private static void promise27() {
        about("27 lose");
        Used x = chain();
        is("each alone takes it from all: the first", x.lose(), 1);
        x.meet(0, 2, true);
        is("none matters: the first", x.lose(), 1);
        x.man(3, 0, 0);
        x.man(0, 0, 0);
        x.meet(3, 4, true);
        is("one takes it from one", x.lose(), 304);
        String before = everything(x);
        x.lose();
        is("nothing is changed", before.equals(everything(x)) ? 1 : 0, 1);
        sayFill(x, 9);
        is("no whole: the first", x.lose(), 1);
        x.meet(0, 1, false);
        is("the lesser and the other", x.lose(), 2);
        is("no meetings", fresh().lose(), NONE);
        Used y = fresh();
        y.man(3, 0, 0);
        for (int i = 0; i < 3; i++) y.man(0, 0, 0);
        for (int i = 0; i < 3; i++) y.meet(i, i + 1, true);
        say(y, 4, 9, 12);
        is("the first of the chain", y.lose(), 1);
        Used z = fresh();
        for (int kind : new int[] {0, 0, 3}) z.man(kind, 0, 0);
        z.meet(0, 1, true);
        z.meet(1, 2, true);
        say(z, 4, 9, 12);
        is("neither hears of the other any more", z.lose(), 102);
    }

    private static void promise28() {
        about("28 speak");
        Used x = fresh();
        is("three of three", x.speak(0, 999, 123, NONE), 9);
        long[] due = {0, 36, 4, 1, 37, 9, 0, 36, 12};
        for (int i = 0; i < 9; i++) is("word " + i, x.speak(0, 999, 123, i), due[i]);
        is("one of four", x.speak(NONE, 1999, NONE, NONE), 12);
        long[] one = {3, 36, 3, 3, 37, 3, 3, 2, 3, 3, 36, 3};
        for (int i = 0; i < 12; i++) is("word " + i, x.speak(NONE, 1999, NONE, i), one[i]);
        is("nothing", x.speak(NONE, NONE, NONE, NONE), 0);
        is("1000 has a NOT", x.speak(1000, 0, 0, 6), 2);
        is("each mark is a digit", x.speak(100, 200, 1910, 0) * 100 + x.speak(100, 200, 1910, 1), 408);
        is("below the thousand", x.speak(100, 200, 1910, 2) * 100 + x.speak(100, 200, 1910, 5), 3605);
        refused(x, -5, () -> x.speak(0, 0, 0, 9));
        refused(x, -5, () -> x.speak(0, 0, 0, -2));
        refused(x, -5, () -> x.speak(NONE, NONE, NONE, 0));
        refused(x, -6, () -> x.speak(2000, 0, 0, 99));
        refused(x, -6, () -> x.speak(0, -2, 0, -2));
        refused(x, -6, () -> x.speak(0, 0, 2000, NONE));
        is("they hear it", 1, hearsWhatIsSpoken(1045, 999, 7) ? 1 : 0);
    }

    private static boolean hearsWhatIsSpoken(int one, int two, int three) {
        Used x = fresh();
        int n = x.speak(one, two, three, NONE);
        long[] words = new long[n];
        for (int i = 0; i < n; i++) words[i] = x.speak(one, two, three, i);
        for (int from = 0; from < 3; from++) x.man(0, 0, from);
        say(x, words);
        return x.sense(0, 0) == one && x.sense(1, 0) == two && x.sense(2, 0) == three;
    }

    private static void promise29() {
        about("29 needs");
        Used x = fresh();
        x.row(2, 2, 0);
        is("nobody", x.needs(2), 0);
        int[] from = {0, 0, 1, 2, 2, 2};
        for (int f : from) x.man(6, 9, f);
        put(x, 2, 2, 1, 1, 1, 1, 1, 1);
        is("one word for all", x.needs(2), 3);
        put(x, 2, 2, 1, 2, 1, 1, 1, 1);
        is("two from 0", x.needs(2), 4);
        put(x, 2, 0, 1, 2, 1, 5, 6, 7);
        is("three from 2", x.needs(2), 9);
        put(x, 2, 3, 1, 2, 1, 5, 6, (1L << 32) + 5, 99);
        is("longs count by 32 bits, more elements by none", x.needs(2), 6);
        put(x, 2, 2, 1, 2, 1, 5, 6, 40);
        refused(x, -6, () -> x.needs(2));
        put(x, 2, 2, -1, 2, 1, 5, 6, 0);
        refused(x, -6, () -> x.needs(2));
        put(x, 2, 2, -1, 2, 1, 5, 6);
        refused(x, -5, () -> x.needs(2));
        x.show(0, 0);
        refused(x, -1, () -> x.needs(8));
        refused(x, -1, () -> x.needs(-1));
        refused(x, -2, () -> x.needs(0));
        refused(x, -3, () -> x.needs(1));
    }

    private static void promise30and31() {
        about("30 count");
        Used x = fresh();
        x.man(0, 0, 0);
        x.man(4, 4, 0);
        x.man(4, 5, 0);
        x.man(0, 0, 1);
        say(x, 0, 1, 2, 3, 4, 5, 6, 7, 8);
        put(x, 2, 2, 0, 3, 6);
        is("no slip", x.count(2, 0), 24);
        is("the greatest a", x.count(2, 1), 30);
        put(x, 3, 3, 0, 3, (1L << 32) + 4, 7);
        is("one slip", x.count(3, 0), 1);
        is("from 0 at 4", x.count(3, 1), 4);
        put(x, 4, 2, 1, 4, 7);
        is("from 0 at 0, or from 1", x.count(4, 0), 23);
        is("by from first", x.count(4, 1), 0);
        put(x, 5, 2, 2, 5, 8);
        is("from 1 at 0 and 1, from 2", x.count(5, 1), 101);
        put(x, 6, 2, 0, 3, 99);
        is("no such", x.count(6, 0), 0);
        is("no such", x.count(6, 1), NONE);
        x.row(6, 2, 0);
        is("nothing heard", x.count(6, 0), 0);
        x.row(6, 2, 160);
        is("too many", x.count(6, 0), 0);
        refused(x, -11, () -> x.count(8, 2));
        x.show(0, 0);
        refused(x, -12, () -> x.count(0, 2));
        refused(x, -13, () -> x.count(1, 2));
        refused(x, -15, () -> x.count(2, 2));
        refused(x, -15, () -> x.count(2, -1));

        about("31 could");
        is("one who counts well", x.could(2), 1);
        is("one who slips at 4", x.could(3), 2);
        is("from 1", x.could(4), 8);
        is("nobody", x.could(6), 0);
        say(x, 0, 3, 0, 0, 3, 0);
        put(x, 3, 2, 0, 0);
        is("several", x.could(3), 5);
        put(x, 3, 2, 3, 3);
        is("another", x.could(3), 8);
        sayFill(x, 4);
        put(x, 3, 2, 3, 3);
        is("several at once", x.could(3), 7);
        refused(x, -1, () -> x.could(8));
        refused(x, -2, () -> x.could(0));
        refused(x, -3, () -> x.could(1));
        Used y = fresh();
        y.row(0, 0, 0);
        is("an empty saying: all pairs", y.count(0, 0), 93);
        is("the first of all", y.count(0, 1), 30);
    }

    private static void promise32() {
        about("32 swap");
        Used x = fresh();
        is("nobody", x.swap(), NONE);
        x.man(0, 0, 0);
        x.man(0, 0, 1);
        say(x, 4, 0, 3, 9, 3, 3, 3, 0, 12);
        is("the lesser first", x.swap(), 106);
        say(x, 4, 3, 3, 9, 3, 3, 3, 3, 12);
        is("the last NAME", x.swap(), 608);
        String before = everything(x);
        x.swap();
        is("nothing is changed", before.equals(everything(x)) ? 1 : 0, 1);
        say(x, 4, 3, 3, 9, 3, 3, 12, 3, 3);
        is("none more than now", x.swap(), NONE);
        say(x, 9, 3, 3, 4, 3, 3, 12, 3, 3);
        is("of several the first", x.swap(), 3);
        sayFill(x, 9);
        is("none", x.swap(), NONE);
        say(x, 0, 0, 3, 0, 1, 3, 1, 1, 0);
        is("of several the first", x.swap(), 7);
        Used y = fresh();
        for (int i = 0; i < 3; i++) y.man(0, 0, 0);
        y.man(0, 0, 1);
        say(y, 4, 8, 3, 3, 13, 3, 0, 3, 1);
        is("most, not the first that is more", y.swap(), 304);
    }

    private static void promise33and34() {
        about("33 judge");
        Used x = withShelves();
        is("a saying", x.judge(2, 3), NONE);
        is("none", x.judge(2, 0), NONE);
        put(x, 3, 3, 39, 1L << 32, 40, -1);
        is("the first", x.judge(3, 4), 2);
        is("ahead of it", x.judge(3, 2), NONE);
        x.set(3, 2, 0);
        is("below 0", x.judge(3, 4), 3);
        x.row(4, 0, 32);
        is("thirty", x.judge(4, 30), NONE);
        refused(x, -11, () -> x.judge(8, -1));
        refused(x, -11, () -> x.judge(-1, -1));
        refused(x, -12, () -> x.judge(0, -1));
        refused(x, -13, () -> x.judge(1, -1));
        refused(x, -14, () -> x.judge(2, -1));
        refused(x, -15, () -> x.judge(2, 4));
        refused(x, -15, () -> x.judge(4, 33));
        refused(x, -16, () -> x.judge(4, 31));

        about("34 would");
        say(x, 3);
        x.man(3, 0, 0);
        is("of a courtier", x.would(2, 3, 0), NONE);
        is("of an ear", x.would(2, 3, 1), 12);
        is("of fewer", x.would(2, 2, 1), NONE);
        is("of none", x.would(2, 0, 1), NONE);
        put(x, 5, 3, 4, 3, 3, (1L << 32) + 9, 3, 3, 12, 99);
        is("of a long saying", x.would(5, 7, 0), 123);
        is("nothing is changed", x.status(1), 1);
        is("of thirty", x.would(4, 30, 1), NONE);
        refused(x, -11, () -> x.would(8, -1, 0));
        refused(x, -11, () -> x.would(0, -1, 2));
        refused(x, -11, () -> x.would(0, -1, -1));
        refused(x, -12, () -> x.would(0, -1, 0));
        refused(x, -13, () -> x.would(1, -1, 0));
        refused(x, -14, () -> x.would(5, -1, 0));
        refused(x, -15, () -> x.would(5, 9, 0));
        refused(x, -16, () -> x.would(5, 8, 0));
        refused(x, -16, () -> x.would(4, 31, 0));
    }

    // ==== promises 35 to 42

    private static void truth() {
        promise35();
        promise36and37();
        promise38and39();
        promise38Bodies();
        promise40and41();
        promise42();
    }

    private static void promise35() {
        about("35 audience");
        Used x = chain();
        is("behind 0", x.audience(0), 0);
        is("beliefs", x.status(4), 1);
        is("behind 1", x.audience(1), 1);
        is("belief", x.belief(1), 1132);
        is("belief of a wrong one", x.belief(0), 132);
        is("behind 9", x.audience(9), 3);
        is("belief", x.belief(0), 1132);
        is("hits", x.manOf(0, 5) * 100 + x.manOf(1, 5) * 10 + x.manOf(2, 5), 121);
        is("hits in all", x.status(3), 4);
        is("known as ahead", x.known(0, 0), 3);
        refused(x, -6, () -> x.audience(10));
        refused(x, -6, () -> x.audience(-1));
    }

    private static int next(int seed) {
        return seed * 1103515245 + 12345;
    }

    private static void promise36and37() {
        about("36 reign");
        Used x = fresh();
        x.man(3, 0, 0);
        x.man(0, 0, 0);
        is("a reign of one", x.reign(1), x.manOf(0, 5) + x.manOf(1, 5));
        int seed = next(1);
        int n = 1 + (seed >>> 16) % 30;
        is("how many words", x.status(1), n);
        for (int i = 0; i < n; i++) {
            seed = next(seed);
            is("word " + i, x.word(i), (seed >>> 16) % 40);
        }
        is("seed", x.status(5), seed);
        int before = x.status(3);
        int hits = x.reign(60);
        is("hits of the reign alone", x.status(3) - before, hits);
        is("an ear has nearly all of them", hits > 30 ? 1 : 0, 1);
        refused(x, -6, () -> x.reign(0));
        refused(x, -6, () -> x.reign(-1));
        refused(x, -6, () -> x.reign(61));

        about("36 reigns are behind no rounds");
        Used y = fresh();
        y.man(3, 0, 0);
        y.man(0, 0, 0);
        y.meet(0, 1, true);
        y.seed(1);
        y.reign(1);
        y.reign(60);
        is("as if they did not meet", y.manOf(1, 5), x.manOf(1, 5));

        about("37 seed");
        is("what it was", y.seed(-7), y.seed(-7) == -7 ? x.status(5) : 0);
        is("now", y.status(5), -7);
        y.seed(Integer.MIN_VALUE);
        is("any", y.seed(0), Integer.MIN_VALUE);
        is("nothing is refused", y.status(16), 0);
    }

    /** The bodies that ran, as text. */
    private static void ran(Used x, int man, int move, int arg, int due, int... bodies) {
        is("act", x.act(man, move, arg), due);
        is("how many ran", x.status(6), bodies.length);
        for (int i = 0; i < bodies.length; i++) is("trace " + i, x.trace(i), bodies[i]);
        is("trace behind", x.trace(bodies.length), NONE);
    }

    private static void promise38and39() {
        about("38 act");
        Used x = fresh();
        x.man(0, 3, 0);
        x.man(0, 3, 0);
        ran(x, 1, 0, 5, 6, 10);
        ran(x, 1, 1, 5, 12, 11, 10);
        ran(x, 1, 2, 5, 12 ^ 3, 12, 11, 10, 10);
        ran(x, 1, 0, Integer.MAX_VALUE, Integer.MIN_VALUE, 10);

        about("39 trace");
        is("trace", x.trace(0), 10);
        is("trace", x.trace(-1), NONE);
        is("trace", x.trace(20), NONE);
        is("trace", x.trace(Integer.MAX_VALUE), NONE);
        x.whole();
        is("it stays", x.trace(0), 10);
        ran(x, 2, 0, 5, 0);
        x.act(1, 0, 5);
        ran(x, -1, 0, 5, 0);
        x.act(1, 0, 5);
        ran(x, 0, 3, 5, 0);
        x.act(1, 0, 5);
        ran(x, 0, -1, 5, 0);
        for (int what = 11; what < 18; what++) is("nothing is refused", x.status(what), 0);
    }

    private static void promise38Bodies() {
        about("38 bodies");
        Used x = fresh();
        for (int kind = 0; kind < 7; kind++) x.man(kind, kind + 2, 0);
        ran(x, 1, 0, 10, 14, 20, 10);
        ran(x, 1, 1, 10, 28, 11, 20, 10);
        ran(x, 1, 2, 10, 28 ^ 11, 12, 11, 20, 10, 20, 10);
        ran(x, 2, 0, 10, 12, 10);
        ran(x, 2, 1, 10, 72, 30, 11, 10);
        ran(x, 2, 2, 10, 72 ^ 8, 12, 30, 11, 10, 10);
        ran(x, 3, 0, 10, 18, 20, 10);
        ran(x, 3, 1, 10, 38, 40, 11, 20, 10);
        ran(x, 3, 2, 10, 38 ^ 13, 12, 40, 11, 20, 10, 20, 10);
        ran(x, 4, 0, 10, 10, 51, 10);
        ran(x, 4, 1, 10, 20, 11, 51, 10);
        ran(x, 4, 2, 10, -(20 ^ 4), 50, 12, 11, 51, 10, 51, 10);
        ran(x, 5, 0, 10, 15, 10);
        ran(x, 5, 1, 10, 90, 30, 11, 10);
        ran(x, 5, 2, 10, 90 ^ 8 ^ 5, 60, 12, 30, 11, 10, 10);
        ran(x, 5, 2, 11, 96 ^ 9 ^ 5, 60, 12, 30, 11, 10, 10);
        ran(x, 6, 0, 10, 20, 70, 51, 10);
        ran(x, 6, 1, 10, 8, 71, 11, 70, 51, 10);
        ran(x, 6, 2, 10, -(8 ^ 4), 50, 12, 71, 11, 70, 51, 10, 70, 51, 10);
    }

    private static void promise40and41() {
        about("40 image");
        Used x = chain();
        x.seed(77);
        x.audience(9);
        is("image", x.image(), 3);
        String before = state(x);
        x.man(6, 1, 1);
        x.meet(0, 3, true);
        x.meet(1, 2, false);
        sayFill(x, 4);
        x.reign(3);
        x.show(0, 0);
        x.show(1, 3);
        put(x, 2, 3, 5);
        x.show(3, 2);
        x.act(3, 0, 5);
        unfit(x, "hush;", 5);
        int refusals = x.status(16);

        about("41 restore");
        is("restore", x.restore(), 3);
        is("all is as ahead", before.equals(state(x)) ? 1 : 0, 1);
        is("a shelf with one who is there", x.holds(0), 0);
        is("a shelf with one who isn't", x.holds(1), NONE);
        is("a shelf with a row", x.holds(2), 103);
        is("its element", x.element(2, 0), 5);
        is("a shelf with the last", x.holds(3), 2);
        is("the trace stays", x.trace(0), 70);
        is("bodies stay", x.status(6), 3);
        is("the fault stays", x.fault(), 5);
        is("refusals stay", x.status(16), refusals);
        x.meet(0, 1, false);
        sayFill(x, 2);
        x.audience(0);
        is("restore again", x.restore(), 3);
        is("all is as ahead", before.equals(state(x)) ? 1 : 0, 1);
        x.man(0, 0, 0);
        is("a newer image", x.image(), 4);
        is("restore", x.restore(), 4);
        Used y = fresh();
        refused(y, -6, y::restore);
        is("an image of nobody", y.image(), 0);
        y.man(0, 0, 0);
        y.show(0, 0);
        is("restore nobody", y.restore(), 0);
        is("nobody in the shelf", y.holds(0), NONE);
        y.man(5, 9, 2);
        is("a new one has no belief", y.belief(0), NONE);
        is("nor meetings, nor hits", y.manOf(0, 4) + y.manOf(0, 5), 0);
    }

    private static void promise42() {
        about("42 status");
        Used x = chain();
        x.audience(9);
        x.audience(9);
        is("courtiers", x.status(0), 3);
        is("words", x.status(1), 9);
        is("meetings", x.status(2), 2);
        is("hits", x.status(3), 6);
        is("believers", x.status(4), 3);
        is("seed", x.status(5), 1);
        is("bodies", x.status(6), 0);
        for (int what : new int[] {-1, 7, 8, 9, 10, 18, Integer.MIN_VALUE, Integer.MAX_VALUE}) {
            is("status(" + what + ")", x.status(what), NONE);
        }
        x.word(99);
        x.sense(9, 0);
        x.sense(0, 99);
        x.row(0, 0, 161);
        x.row(0, 0, -1);
        x.show(0, 0);
        x.say(0, 0);
        x.say(1, 0);
        for (int what = 11; what < 18; what++) is("status(" + what + ")", x.status(what), 1);
    }
}

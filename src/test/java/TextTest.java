/** Promises 14 and 15: courts read from texts, each sentence of the document about them, at its edges. */
public final class TextTest extends Checks {

    public static void main(String[] args) {
        items();
        numbers();
        blanksAndSigns();
        allOrNothing();
        sameCourtier();
        roomForCourtiers();
        roomForWords();
        endsTooEarly();
        oneElementThatCannotStand();
        nothingInIt();
        fullRows();
        sorts();
        latestFault();
        end("texts");
    }

    /** Two courtiers who meet, and a saying of three words. */
    private static Used two() {
        Used x = fresh();
        x.man(EAR, 4, 2);
        x.man(TWICE, 9, 1);
        x.meet(0, 1, true);
        say(x, 4, 1, 8);
        return x;
    }

    private static Used men(int n) {
        Used x = fresh();
        for (int i = 0; i < n; i++) x.man(COURTIER, 0, 0);
        return x;
    }

    private static Used words(int n) {
        Used x = fresh();
        sayFill(x, n);
        return x;
    }

    private static void items() {
        about("ITEM, then any number of times ; and ITEM");
        Used x = fresh();
        stands(x, "man 3 5 2", 1);
        is("KIND", x.manOf(0, 0), EAR);
        is("a", x.manOf(0, 1), 5);
        is("FROM", x.manOf(0, 2), 2);
        is("BELIEF", x.belief(0), NONE);
        is("HITS", x.manOf(0, 5), 0);
        is("meets", x.manOf(0, 4), 0);
        stands(x, "man 0 0 0;man 0 0 1", 2);
        stands(x, "meet 2 0", 1);
        is("meets", x.manOf(0, 4), 4);
        is("meets", x.manOf(2, 4), 1);
        stands(x, "meet 0 2", 1);
        is("they met before", x.status(2), 1);
        stands(x, "part 0 2", 1);
        is("they meet no more", x.status(2) + x.manOf(0, 4) + x.manOf(2, 4), 0);
        stands(x, "part 0 2", 1);
        stands(x, "word 7", 1);
        stands(x, "word 9;word 11", 2);
        is("behind THE SAYING", x.word(0) * 10000 + x.word(1) * 100 + x.word(2), 70911);
        stands(x, "hush", 1);
        is("THE SAYING is empty", x.status(1), 0);
        stands(x, "hush;hush;hush", 3);
        stands(x, "word 1;hush;word 2;hush;word 3", 5);
        is("the last alone", x.status(1) * 100 + x.word(0), 103);
        faulty(TextTest::two, ";", 0);
        faulty(TextTest::two, ";hush", 0);
        faulty(TextTest::two, "hush;;hush", 5);
        faulty(TextTest::two, "hush,hush", 4);
        faulty(TextTest::two, "hushhush", 4);
        faulty(TextTest::two, "hush hush", 4);
        faulty(TextTest::two, "word 1word 1", 6);
        faulty(TextTest::two, "man 0 0 0man 0 0 0", 9);
        faulty(TextTest::two, "hush\n", 4);
        faulty(TextTest::two, "word 1,word 1", 6);
        faulty(TextTest::two, "man 0 0 0;;", 10);
        faulty(TextTest::two, "man 0 0 0; man 0 0 0", 10);
        faulty(TextTest::two, "man 0 0 0;man 0 0 0;man 0 0 3", 28);
    }

    /** Of each number: the least, the greatest, and the one beside. */
    private static void numbers() {
        about("NUMBERS (1 to 2 digits); of a NUMBER that may not be the place of its first digit");
        for (int kind = 0; kind <= 6; kind++) stands(two(), "man " + kind + " 0 0", 1);
        for (int a = 0; a <= 9; a++) stands(two(), "man 0 " + a + " 0", 1);
        for (int from = 0; from <= 2; from++) stands(two(), "man 0 0 " + from, 1);
        for (int word = 0; word <= 39; word++) {
            Used x = two();
            stands(x, "word " + word, 1);
            is("the word", x.word(3), word);
        }
        for (int n = 7; n <= 99; n++) faulty(TextTest::two, "man " + n + " 0 0", 4);
        for (int n = 10; n <= 99; n++) faulty(TextTest::two, "man 0 " + n + " 0", 6);
        for (int n = 3; n <= 99; n++) faulty(TextTest::two, "man 0 0 " + n, 8);
        for (int n = 40; n <= 99; n++) faulty(TextTest::two, "word " + n, 5);
        for (int n = 2; n <= 99; n++) {
            faulty(TextTest::two, "meet " + n + " 0", 5);
            faulty(TextTest::two, "meet 0 " + n, 7);
            faulty(TextTest::two, "part " + n + " 0", 5);
            faulty(TextTest::two, "part 0 " + n, 7);
        }
        faulty(() -> men(8), "meet 8 0", 5);
        faulty(() -> men(8), "meet 0 8", 7);
        faulty(() -> men(8), "part 10 11", 5);
        stands(men(8), "meet 7 6;part 6 7", 2);
        faulty(() -> men(0), "meet 0 1", 5);
        faulty(() -> men(0), "part 0 0", 5);
        faulty(() -> men(1), "meet 0 1", 7);
        faulty(() -> men(1), "meet 1 0", 5);

        about("NUMBERS of 1 to 2 digits: no third one, none at all");
        faulty(TextTest::two, "word 390", 7);
        faulty(TextTest::two, "word 001", 7);
        faulty(TextTest::two, "man 000 0 0", 6);
        faulty(TextTest::two, "man 0 000 0", 8);
        faulty(TextTest::two, "man 0 0 000", 10);
        faulty(TextTest::two, "meet 000 1", 7);
        faulty(TextTest::two, "meet 1 001", 9);
        faulty(TextTest::two, "part 1 000", 9);
        faulty(TextTest::two, "word ;", 5);
        faulty(TextTest::two, "word x", 5);
        faulty(TextTest::two, "word +1", 5);
        faulty(TextTest::two, "word -1", 5);
        faulty(TextTest::two, "man -1 0 0", 4);
        faulty(TextTest::two, "word /", 5);
        faulty(TextTest::two, "word :", 5);
        faulty(TextTest::two, "word 1/", 6);
        faulty(TextTest::two, "word 1:", 6);

        about("a NUMBER that may not be, ahead of what comes behind it");
        faulty(TextTest::two, "man 7", 4);
        faulty(TextTest::two, "man 7x", 4);
        faulty(TextTest::two, "man 0 10", 6);
        faulty(TextTest::two, "man 8 10 3", 4);
        faulty(TextTest::two, "man 700", 4);
        faulty(TextTest::two, "man 0 99x", 6);
        faulty(TextTest::two, "meet 2", 5);
        faulty(TextTest::two, "meet 2 2", 5);
        faulty(TextTest::two, "word 400", 5);
        faulty(TextTest::two, "word 40;", 5);

        about("Numbers of a text may begin with 0");
        Used x = two();
        stands(x, "man 06 09 02;meet 00 02;meet 01 02;part 01 00;word 09;word 00", 6);
        is("KIND", x.manOf(2, 0), TWICE);
        is("a", x.manOf(2, 1), 9);
        is("FROM", x.manOf(2, 2), 2);
        is("meets", x.manOf(2, 4), 3);
        is("they part", x.manOf(0, 4), 4);
        is("words", x.word(3) * 100 + x.word(4), 900);
        faulty(TextTest::two, "man 07 0 0", 4);
        faulty(TextTest::two, "man 0 0 03", 8);
        faulty(TextTest::two, "meet 02 0", 5);
        faulty(TextTest::two, "meet 0 02", 7);
    }

    private static void blanksAndSigns() {
        about("One blank between words and NUMBERS");
        faulty(TextTest::two, "man0 0 0", 3);
        faulty(TextTest::two, "man  0 0 0", 4);
        faulty(TextTest::two, "man 0  0 0", 6);
        faulty(TextTest::two, "man 0 0  0", 8);
        faulty(TextTest::two, "man 0,0 0", 5);
        faulty(TextTest::two, "man 00 0;man 0 0 0", 8);
        faulty(TextTest::two, "meet0 1", 4);
        faulty(TextTest::two, "meet  0 1", 5);
        faulty(TextTest::two, "meet 0  1", 7);
        faulty(TextTest::two, "part0 1", 4);
        faulty(TextTest::two, "word5", 4);
        faulty(TextTest::two, "word  5", 5);
        faulty(TextTest::two, "word\t5", 4);
        faulty(TextTest::two, " hush", 0);
        faulty(TextTest::two, "hush ", 4);
        faulty(TextTest::two, "hush; hush", 5);
        faulty(TextTest::two, "hush ;hush", 4);
        faulty(TextTest::two, "word 5 ", 6);
        faulty(TextTest::two, "man 0 0 0 0", 9);
        faulty(TextTest::two, "Hush", 0);
        faulty(TextTest::two, "HUSH", 0);
        faulty(TextTest::two, "huSh", 2);
        faulty(TextTest::two, "mxn 0 0 0", 1);
        faulty(TextTest::two, "mean", 2);
        faulty(TextTest::two, "maet 0 1", 2);
        faulty(TextTest::two, "pert 0 1", 1);
        faulty(TextTest::two, "pard", 3);
        faulty(TextTest::two, "words 1", 4);
        faulty(TextTest::two, "hash", 1);
    }

    private static void allOrNothing() {
        about("All is told over what there is, or nothing");
        String[] texts = {"man 1 1 1;", "meet 1 0;part 0 1;", "word 5;", "hush;", "man 0 0 0;meet 2 0;hush;word 1;"};
        for (String text : texts) {
            faulty(TextTest::two, text + "x", text.length());
            faulty(TextTest::two, text + "word 40", text.length() + 5);
            faulty(TextTest::two, text, text.length());
        }
        Used x = two();
        stands(x, "man 0 0 0;meet 2 0;part 1 0;word 39;hush;word 3", 6);
        is("over what there is", x.manOf(0, 0) * 10 + x.manOf(1, 0), 36);
        is("meetings", x.manOf(0, 4), 4);
        is("words", x.status(1) * 100 + x.word(0), 103);
        about("a COURTIER who was told of ahead in the same text can be named, one behind can't");
        stands(men(0), "man 0 0 0;man 0 0 0;meet 1 0", 3);
        faulty(() -> men(0), "man 0 0 0;meet 0 1;man 0 0 0", 17);
        faulty(() -> men(0), "man 0 0 0;meet 1 0;man 0 0 0", 15);
        faulty(() -> men(7), "meet 0 7;man 0 0 0", 7);
        stands(men(7), "man 0 0 0;meet 0 7", 2);
    }

    private static void sameCourtier() {
        about("what can't stand: the same COURTIER: Y");
        faulty(TextTest::two, "meet 0 0", 7);
        faulty(TextTest::two, "meet 1 1", 7);
        faulty(TextTest::two, "part 0 0", 7);
        faulty(TextTest::two, "part 1 1", 7);
        faulty(TextTest::two, "meet 1 01", 7);
        faulty(TextTest::two, "meet 01 1", 8);
        faulty(TextTest::two, "meet 0 0;x", 7);
        faulty(TextTest::two, "meet 0 0x", 7);
        faulty(TextTest::two, "meet 0 00", 7);
        stands(two(), "meet 0 01", 1);
        stands(two(), "meet 00 1", 1);
        faulty(() -> men(8), "meet 7 7", 7);
    }

    private static void roomForCourtiers() {
        about("what there is no room for can't stand: a 9th COURTIER, at his word, once that is whole");
        stands(men(7), "man 6 9 2", 1);
        stands(men(0), "man 0 0 0;man 0 0 0;man 0 0 0;man 0 0 0;man 0 0 0;man 0 0 0;man 0 0 0;man 0 0 0", 8);
        faulty(() -> men(8), "man 0 0 0", 0);
        faulty(() -> men(7), "man 0 0 0;man 0 0 0", 10);
        faulty(() -> men(6), "man 0 0 0;man 0 0 0;man 0 0 0", 20);
        faulty(() -> men(0), "man 0 0 0;man 0 0 0;man 0 0 0;man 0 0 0;man 0 0 0;man 0 0 0;man 0 0 0;man 0 0 0;man 0 0 0", 80);
        faulty(() -> men(8), "hush;man 0 0 0", 5);
        about("Whether there is room is asked when its letters stand whole");
        faulty(() -> men(8), "m", 1);
        faulty(() -> men(8), "ma", 2);
        faulty(() -> men(8), "max", 2);
        faulty(() -> men(8), "mxn", 1);
        faulty(() -> men(8), "man", 0);
        faulty(() -> men(8), "manx", 0);
        faulty(() -> men(8), "man ", 0);
        faulty(() -> men(8), "man 9 9 9", 0);
        faulty(() -> men(8), "hush;ma", 7);
        faulty(() -> men(8), "hush;man", 5);
        faulty(() -> men(8), "hush;manx", 5);
        faulty(() -> men(8), "hush;mbn", 6);
        faulty(() -> men(7), "man", 3);
        faulty(() -> men(7), "manx", 3);
        about("what there is room for still stands in a full court");
        stands(men(8), "meet 0 7;word 1;hush;part 0 7", 4);
        is("room is not asked of meet", court(men(8), "meet 0 1"), 1);
    }

    private static void roomForWords() {
        about("what there is no room for can't stand: a 31st WORD, at its word, once that is whole");
        stands(words(29), "word 39", 1);
        faulty(() -> words(30), "word 1", 0);
        faulty(() -> words(29), "word 1;word 1", 7);
        faulty(() -> words(28), "word 1;word 1;word 1", 14);
        faulty(() -> words(30), "man 0 0 0;word 1", 10);
        stands(words(30), "hush;word 1", 2);
        faulty(() -> words(30), "word 1;hush", 0);
        stands(words(30), "man 0 0 0;man 0 0 0;meet 0 1;part 0 1;hush", 5);
        about("Whether there is room is asked when its letters stand whole");
        faulty(() -> words(30), "w", 1);
        faulty(() -> words(30), "wor", 3);
        faulty(() -> words(30), "wore", 3);
        faulty(() -> words(30), "word", 0);
        faulty(() -> words(30), "wordx", 0);
        faulty(() -> words(30), "word ", 0);
        faulty(() -> words(30), "word 40", 0);
        faulty(() -> words(29), "word", 4);
        faulty(() -> words(29), "wordx", 4);
        about("hush makes room, a hush of nothing too");
        StringBuilder text = new StringBuilder("hush");
        for (int i = 0; i < 18; i++) text.append(";word 3");
        Used x = words(30);
        stands(x, text.toString(), 19);
        is("words", x.status(1), 18);
        stands(fresh(), "hush;word 3", 2);
    }

    /** Each beginning of a text stands, where an item ends there; else its number of elements is the fault. */
    private static void endsTooEarly() {
        about("The FAULT: the number of elements, if it ends too early");
        beginnings("man 6 9 2;man 0 00 00;meet 00 1;part 1 0;word 39;word 7;hush;man 1 1 1",
            9, 20, 21, 31, 40, 47, 48, 55, 60, 70);
        for (String word : new String[] {"man", "meet", "part", "word", "hush"}) {
            for (int n = 0; n < word.length(); n++) faulty(TextTest::two, word.substring(0, n), n);
        }
        faulty(TextTest::two, "man ", 4);
        faulty(TextTest::two, "man 0", 5);
        faulty(TextTest::two, "man 00", 6);
        faulty(TextTest::two, "man 0 ", 6);
        faulty(TextTest::two, "man 0 0", 7);
        faulty(TextTest::two, "man 0 0 ", 8);
        faulty(TextTest::two, "meet", 4);
        faulty(TextTest::two, "meet 0", 6);
        faulty(TextTest::two, "meet 0 ", 7);
        faulty(TextTest::two, "part 1", 6);
        faulty(TextTest::two, "word", 4);
        faulty(TextTest::two, "word ", 5);
        faulty(TextTest::two, "hush;", 5);
        faulty(TextTest::two, "hush;hus", 8);
        faulty(TextTest::two, "man 0 0;", 7);
    }

    private static void beginnings(String text, int... ends) {
        for (int n = 0; n <= text.length(); n++) {
            String begun = text.substring(0, n);
            boolean whole = false;
            for (int end : ends) whole |= end == n;
            if (whole) is("court(" + begun + ")", court(fresh(), begun), 1 + (int) begun.chars().filter(c -> c == ';').count());
            else faulty(Checks::fresh, begun, n);
        }
    }

    /** A sign that never may be, at each place of a text: that place is the fault, whatever stood ahead. */
    private static void oneElementThatCannotStand() {
        about("The FAULT: the first place at which an element can't stand");
        String text = "man 0 0 0;meet 1 2;part 2 00;word 39;hush";
        for (int p = 0; p < text.length(); p++) {
            faulty(TextTest::two, text.substring(0, p) + "!" + text.substring(p + 1), p);
            faulty(TextTest::two, text.substring(0, p) + "!" + text.substring(p), p);
        }
        faulty(TextTest::two, text + "!", text.length());
        about("of several FAULTS the first");
        faulty(TextTest::two, "hush;x;meet 9 9;word 99", 5);
        faulty(TextTest::two, "word 99;x", 5);
    }

    private static void nothingInIt() {
        about("a text with nothing in it");
        faulty(Checks::fresh, "", 0);
        faulty(TextTest::two, "", 0);
        for (int sort = 0; sort < 4; sort++) {
            Used x = two();
            x.row(0, sort, 0);
            is("court of no elements", x.court(0), -6);
            is("fault", x.fault(), 0);
        }
        Used x = two();
        x.row(0, BYTES, 160);
        is("court of 160 zeros", x.court(0), -6);
        is("fault", x.fault(), 0);
    }

    private static void fullRows() {
        about("a ROW of 160 elements");
        StringBuilder text = new StringBuilder("word 10;word 39");
        for (int i = 0; i < 29; i++) text.append(";hush");
        is("elements", text.length(), 160);
        stands(fresh(), text.toString(), 31);
        String early = text.substring(0, 155) + ";man ";
        faulty(Checks::fresh, early, 160);
        faulty(Checks::fresh, text.substring(0, 159) + "x", 159);
        about("the end of the ROW is the end of the text, whatever stood behind it in another ROW");
        Used x = fresh();
        putText(x, 0, BYTES, "hush;hush;hush");
        is("court", x.court(0), 3);
        putText(x, 0, BYTES, "hush;");
        is("court", x.court(0), -6);
        is("fault", x.fault(), 5);
        putText(x, 0, BYTES, "hu");
        is("court", x.court(0), -6);
        is("fault", x.fault(), 2);
    }

    private static void sorts() {
        about("letters in a ROW of each SORT");
        for (int sort = 0; sort < 4; sort++) {
            Used x = fresh();
            putText(x, 0, sort, "man 3 4 2;word 39");
            is("court", x.court(0), 2);
            is("word", x.word(0), 39);
        }
        about("Elements of a ROW of longs count by their lowest 32 bits");
        Used x = fresh();
        put(x, 0, LONGS, (1L << 32) + 'h', (-1L << 32) + 'u', (7L << 40) + 's', MIN * 2L * 2L + 'h');
        is("court", x.court(0), 1);
        put(x, 0, LONGS, 'h', 'u', 's', 'h' + (1L << 31));
        is("court", x.court(0), -6);
        is("fault", x.fault(), 3);
        about("an element that only looks like a letter by its lowest bits");
        put(x, 0, SHORTS, 'h', 'u', 's' + 256, 'h');
        is("court", x.court(0), -6);
        is("fault", x.fault(), 2);
        put(x, 0, INTS, 'h' + 65536, 'u', 's', 'h');
        is("court", x.court(0), -6);
        is("fault", x.fault(), 0);
        put(x, 0, BYTES, 'h' + 256, 'u', 's', 'h');
        is("a byte keeps its lowest bits", x.court(0), 1);
    }

    private static void latestFault() {
        about("The FAULT of the latest court() that came to a ROW; NONE: there was none, or none yet");
        Used x = fresh();
        is("none yet", x.fault(), NONE);
        x.man(COURTIER, 0, 0);
        x.show(0, 0);
        refused(x, -1, () -> x.court(-1));
        refused(x, -1, () -> x.court(8));
        refused(x, -2, () -> x.court(0));
        refused(x, -3, () -> x.court(1));
        is("none yet", x.fault(), NONE);
        unfit(x, "hush;word 40", 10);
        is("a court that is wrong is counted", x.status(16), 1);
        refused(x, -1, () -> x.court(-1));
        refused(x, -2, () -> x.court(0));
        refused(x, -3, () -> x.court(1));
        refused(x, -6, () -> x.man(0, 10, 0));
        is("it stays where no ROW was come to", x.fault(), 10);
        unfit(x, "", 0);
        stands(x, "hush", 1);
        is("none", x.fault(), NONE);
        refused(x, -3, () -> x.court(1));
        is("none", x.fault(), NONE);
    }
}

/**
 * One test for each sentence of the document's promises that names an edge: calls up to it, at it and past it, and
 * what is answered after it. The sentence is told with each answer that is not as due.
 */
public final class PromiseEdges {
    private static final int NONE = -1;
    private static final int LOW = Integer.MIN_VALUE;
    private static final int HIGH = Integer.MAX_VALUE;

    private static int wrong = 0;
    private static String sentence = "";

    public static void main(String[] args) {
        makingTheForm();
        hearing();
        looking();
        ending();
        System.out.println(wrong == 0 ? "all answers are as due" : wrong + " answers are not as due");
        if (wrong != 0) {
            System.exit(1);
        }
    }

    private static void makingTheForm() {
        newObject();
        newObjectsShareNothing();
        digitsNumber();
        digitsOthers();
        digitsTwelve();
        digitsSaid();
        choiceNumber();
        choiceNoMore();
        choiceOthers();
        choiceTwelve();
        choiceSaid();
        needsOneAhead();
        needsOthers();
        needsSaid();
        needsTwice();
    }

    private static void hearing() {
        costsSet();
        costsOthers();
        placeMore();
        wordMore();
        wordOthers();
        sayTells();
        goesOn();
    }

    private static void looking() {
        toldOfTheLatest();
        toldHowManyFell();
        toldDigitsDiffer();
        toldOthers();
        toldWithoutAReading();
        aboutSays();
        aboutCounts();
        aboutOthers();
        fieldOfDigitsAndChoice();
        fieldOthers();
    }

    private static void ending() {
        hearBackCounts();
        hearBackAskedFor();
        sendOpen();
        sendNotHeardBack();
        sendTwice();
        sendOfNoFields();
        manyCalls();
    }

    private static void due(String call, int got, int want) {
        if (got != want) {
            wrong++;
            System.out.println("\"" + sentence + "\": " + call + " answered " + got + ", due is " + want);
        }
    }

    private static void due(String call, boolean got, boolean want) {
        due(call, got ? 1 : 0, want ? 1 : 0);
    }

    private static void due(String call, String got, String want) {
        if (!got.equals(want)) {
            wrong++;
            System.out.println("\"" + sentence + "\": " + call + " showed " + got + ", due is " + want);
        }
    }

    /** Hears a row of PLACES: "1 7/4,8 -" is 1; 7 at 4 or 8; a PLACE without words. A word without a cost costs 0. */
    private static void hear(VoiceForm x, String row) {
        for (String place : row.isEmpty() ? new String[0] : row.split(" ")) {
            x.place();
            for (String word : place.equals("-") ? new String[0] : place.split(",")) {
                String[] parts = word.split("/");
                x.word(Integer.parseInt(parts[0]), parts.length > 1 ? Integer.parseInt(parts[1]) : 0);
            }
        }
    }

    private static void said(VoiceForm x, String row, int want) {
        hear(x, row);
        due("say of '" + row + "'", x.say(), want);
    }

    private static void reading(VoiceForm x, int sort, int value, int cost) {
        due("told(1)", x.told(1), sort);
        due("told(2)", x.told(2), value);
        due("told(3)", x.told(3), cost);
    }

    private static void other(VoiceForm x, int sort, int value, int cost) {
        due("told(4)", x.told(4), sort);
        due("told(5)", x.told(5), value);
        due("told(6)", x.told(6), cost);
    }

    private static void atHand(VoiceForm x, int want) {
        due("about(0)", x.about(0), want);
    }

    private static void waits(VoiceForm x, int want) {
        due("about(2)", x.about(2), want);
    }

    private static void value(VoiceForm x, int f, int want) {
        due("field(" + f + ", 7)", x.field(f, 7), want);
        due("field(" + f + ", 4)", x.field(f, 4), want == NONE ? 0 : 1);
    }

    /** All that can be looked at of the talk and its fields. */
    private static String look(VoiceForm x) {
        StringBuilder all = new StringBuilder();
        for (int what = 0; what <= 8; what++) {
            // How many SAYS told 0 or 1 is no part of where the talk stands.
            all.append(what == 5 ? 0 : x.about(what)).append(' ');
        }
        for (int f = 0; f < x.about(6); f++) {
            all.append("| ");
            for (int what = 0; what <= 7; what++) {
                all.append(x.field(f, what)).append(' ');
            }
        }
        return all.toString();
    }

    private static VoiceForm withDigits(int... lengths) {
        VoiceForm x = new VoiceForm();
        for (int i = 0; i < lengths.length; i++) {
            due("digits", x.digits(20 + i, lengths[i], false, false), i);
        }
        return x;
    }

    /** All that a new object answers to looks. */
    private static void newAnswers(VoiceForm x) {
        int[] about = {NONE, NONE, 0, 0, 0, 0, 0, 0, 0};
        for (int what = 0; what < about.length; what++) {
            due("about(" + what + ")", x.about(what), about[what]);
            due("told(" + what + ")", x.told(what), NONE);
        }
        for (int f = -1; f <= 12; f++) {
            for (int what = -1; what <= 8; what++) {
                due("field(" + f + ", " + what + ")", x.field(f, what), NONE);
            }
        }
    }

    private static void newObject() {
        sentence = "1: No FIELDS";
        due("NONE", VoiceForm.NONE, NONE);
        VoiceForm x = new VoiceForm();
        newAnswers(x);
        due("needs(0, 0, 0)", x.needs(0, 0, 0), false);
        due("needs(1, 0, 0)", x.needs(1, 0, 0), false);
        due("word(0, 0)", x.word(0, 0), NONE);
        due("goOn()", x.goOn(), false);
        due("hearBack()", x.hearBack(), 0);
        newAnswers(x);
        said(x, "", 0);
        said(x, "5", 1);
        said(x, "17 20", 1);
        said(x, "16 5", 6);
        due("FIELDS", x.about(6), 0);
    }

    private static void newObjectsShareNothing() {
        sentence = "1: A new object";
        VoiceForm x = withDigits(2, 1);
        due("costs", x.costs(1, 2, 3), true);
        said(x, "1 2", 4);
        due("hearBack()", x.hearBack(), 1);
        said(x, "14", 5);
        due("place()", x.place(), 1);
        newAnswers(new VoiceForm());
        VoiceForm y = withDigits(1, 1);
        said(y, "5 40", 4);
        reading(y, 0, 5, 30);
        due("PLACES of the first one", x.about(8), 1);
        value(x, 0, 12);
    }

    private static void digitsNumber() {
        sentence = "2: A FIELD of DIGITS: its number";
        VoiceForm x = new VoiceForm();
        due("digits", x.digits(59, 8, true, true), 0);
        due("choice", x.choice(40, false, 50, NONE, NONE, NONE, NONE, NONE), 1);
        due("digits", x.digits(20, 1, false, false), 2);
        int[] first = {59, 8, 0, 1, 0, 0, 0, NONE};
        int[] third = {20, 1, 0, 1, 0, 0, 0, NONE};
        for (int what = 0; what <= 7; what++) {
            due("field(0, " + what + ")", x.field(0, what), first[what]);
            due("field(2, " + what + ")", x.field(2, what), third[what]);
        }
    }

    private static void digitsOthers() {
        sentence = "2: NONE for others";
        VoiceForm x = new VoiceForm();
        int[][] bad = {{19, 1}, {60, 1}, {NONE, 1}, {LOW, 1}, {HIGH, 1}, {20, 0}, {20, 9}, {20, NONE}, {20, LOW},
            {20, HIGH}, {19, 0}, {60, 9}};
        for (int round = 0; round < 2; round++) {
            String stands = look(x);
            for (int[] b : bad) {
                for (int flags = 0; flags < 4; flags++) {
                    due("digits(" + b[0] + ", " + b[1] + ")",
                            x.digits(b[0], b[1], (flags & 1) != 0, (flags & 2) != 0), NONE);
                }
            }
            due("what stands", look(x), stands);
            due("the next number", x.digits(20 + round, 1, false, false), round);
            due("its name again", x.digits(20 + round, 1, false, false), NONE);
        }
        said(x, "5", 4);
        value(x, 0, 5);
        atHand(x, 1);
    }

    private static void digitsTwelve() {
        sentence = "2: NONE ... if there are 12";
        VoiceForm x = withDigits(1, 1, 1, 1, 1, 1, 1, 1, 1, 1, 1);
        due("FIELDS", x.about(6), 11);
        due("a twelfth", x.digits(31, 1, false, false), 11);
        String full = look(x);
        due("a thirteenth", x.digits(32, 1, false, false), NONE);
        due("a thirteenth", x.digits(59, 8, true, true), NONE);
        due("what stands", look(x), full);
        due("FIELDS", x.about(6), 12);
        for (int f = 0; f < 12; f++) {
            atHand(x, f);
            said(x, "5", 4);
        }
        atHand(x, NONE);
        due("hearBack()", x.hearBack(), 12);
        due("send()", x.send(), true);
    }

    private static void digitsSaid() {
        sentence = "2: NONE ... if something was said";
        String[] rows = {"", "40", "5,6", "5", "13", "11", "14"};
        int[] tells = {0, 1, 2, 4, 5, 6, 5};
        for (int i = 0; i < rows.length; i++) {
            VoiceForm x = withDigits(1);
            hear(x, rows[i]);
            due("digits ahead of the SAY", x.digits(30, 1, false, false), 1);
            due("say()", x.say(), tells[i]);
            String stands = look(x);
            due("digits", x.digits(31, 1, false, false), NONE);
            due("digits", x.digits(31, 8, true, true), NONE);
            due("what stands", look(x), stands);
            due("goOn()", x.goOn(), rows[i].equals("14"));
            due("digits", x.digits(31, 1, false, false), NONE);
            due("FIELDS", x.about(6), 2);
        }
        VoiceForm x = new VoiceForm();
        said(x, "", 0);
        due("digits", x.digits(20, 1, false, false), NONE);
        due("FIELDS", x.about(6), 0);
        atHand(x, NONE);
    }

    private static void choiceNumber() {
        sentence = "3: A FIELD of a CHOICE of WORDS: its number";
        VoiceForm x = new VoiceForm();
        due("choice", x.choice(59, true, 20, 21, 22, 23, 24, 25), 0);
        due("digits", x.digits(40, 1, false, false), 1);
        due("choice", x.choice(20, false, 59, NONE, NONE, NONE, NONE, NONE), 2);
        int[] first = {59, 0, 6, 1, 0, 0, 0, NONE};
        int[] third = {20, 0, 1, 1, 0, 0, 0, NONE};
        for (int what = 0; what <= 7; what++) {
            due("field(0, " + what + ")", x.field(0, what), first[what]);
            due("field(2, " + what + ")", x.field(2, what), third[what]);
        }
    }

    private static void choiceNoMore() {
        sentence = "3: (NONE: no more; from the first NONE on none counts)";
        for (int count = 0; count <= 6; count++) {
            int[] w = {50, 51, 52, 53, 54, 55};
            for (int i = count; i < 6; i++) {
                w[i] = i == count ? NONE : i % 2 == 0 ? 50 : LOW;
            }
            VoiceForm x = new VoiceForm();
            due("choice of " + count, x.choice(20, false, w[0], w[1], w[2], w[3], w[4], w[5]), count > 0 ? 0 : NONE);
            due("FIELDS", x.about(6), count > 0 ? 1 : 0);
            due("WORDS", x.field(0, 2), count > 0 ? count : NONE);
            due("digits", x.digits(21, 1, false, false), count > 0 ? 1 : 0);
            if (count > 0) {
                due("needs of one too far", x.needs(1, 0, count), false);
                due("needs of the last", x.needs(1, 0, count - 1), true);
                said(x, "56", 1);
                if (count < 6) {
                    said(x, String.valueOf(50 + count), 1);
                }
                said(x, String.valueOf(49 + count), 4);
                value(x, 0, count - 1);
            }
        }
        VoiceForm x = new VoiceForm();
        due("a WORD behind NONE", x.choice(20, false, 50, NONE, 51, 52, 53, 54), 0);
        due("WORDS", x.field(0, 2), 1);
        said(x, "51", 1);
        said(x, "50", 4);
    }

    private static void choiceOthers() {
        sentence = "3: NONE likewise (for others)";
        VoiceForm x = new VoiceForm();
        int[] bad = {LOW, -2, 0, 10, 19, 60, HIGH};
        for (int round = 0; round < 2; round++) {
            String stands = look(x);
            for (int b : bad) {
                due("name " + b, x.choice(b, false, 50, NONE, NONE, NONE, NONE, NONE), NONE);
                int[] w = {50, 51, 52, 53, 54, 55};
                for (int i = 0; i < 6; i++) {
                    w[i] = b;
                    due("word " + i + " is " + b, x.choice(30, false, w[0], w[1], w[2], w[3], w[4], w[5]), NONE);
                    w[i] = 50 + i;
                }
            }
            for (int i = 0; i < 6; i++) {
                for (int j = 0; j < i; j++) {
                    int[] w = {50, 51, 52, 53, 54, 55};
                    w[i] = w[j];
                    due("words " + j + " and " + i + " alike", x.choice(30, false, w[0], w[1], w[2], w[3], w[4], w[5]),
                            NONE);
                }
            }
            due("name NONE", x.choice(NONE, false, 50, NONE, NONE, NONE, NONE, NONE), NONE);
            due("no words", x.choice(30, false, NONE, NONE, NONE, NONE, NONE, NONE), NONE);
            due("what stands", look(x), stands);
            due("the next number", x.choice(20 + round, false, 50, 51, NONE, NONE, NONE, NONE), round);
            due("its name again", x.choice(20 + round, false, 52, NONE, NONE, NONE, NONE, NONE), NONE);
        }
        said(x, "52", 1);
        said(x, "51", 4);
        value(x, 0, 1);
    }

    private static void choiceTwelve() {
        sentence = "3: NONE likewise (if there are 12)";
        VoiceForm x = withDigits(1, 1, 1, 1, 1, 1, 1, 1, 1, 1, 1);
        due("a twelfth", x.choice(31, false, 50, 51, NONE, NONE, NONE, NONE), 11);
        String full = look(x);
        due("a thirteenth", x.choice(32, false, 50, NONE, NONE, NONE, NONE, NONE), NONE);
        due("a thirteenth", x.digits(32, 1, false, false), NONE);
        due("what stands", look(x), full);
        said(x, "17 31", 5);
        said(x, "51", 4);
        value(x, 11, 1);
        atHand(x, 0);
    }

    private static void choiceSaid() {
        sentence = "3: NONE likewise (if something was said)";
        String[] rows = {"", "40", "50,51", "50", "13", "11"};
        int[] tells = {0, 1, 2, 4, 5, 6};
        for (int i = 0; i < rows.length; i++) {
            VoiceForm x = new VoiceForm();
            due("choice", x.choice(20, false, 50, 51, NONE, NONE, NONE, NONE), 0);
            due("choice", x.choice(21, false, 50, 51, NONE, NONE, NONE, NONE), 1);
            said(x, rows[i], tells[i]);
            String stands = look(x);
            due("choice", x.choice(22, false, 50, NONE, NONE, NONE, NONE, NONE), NONE);
            due("what stands", look(x), stands);
        }
    }

    private static void needsOneAhead() {
        sentence = "4: A FIELD needs a VALUE of one ahead of it (a CHOICE's): true";
        VoiceForm x = new VoiceForm();
        due("choice", x.choice(20, false, 50, 51, 52, 53, 54, 55), 0);
        for (int f = 1; f < 11; f++) {
            due("choice", x.choice(20 + f, false, 50, 51, NONE, NONE, NONE, NONE), f);
        }
        due("digits", x.digits(31, 1, false, false), 11);
        due("needs(1, 0, 0)", x.needs(1, 0, 0), true);
        due("needs(2, 0, 5)", x.needs(2, 0, 5), true);
        due("needs(11, 10, 1)", x.needs(11, 10, 1), true);
        due("FIELDS ASKED FOR", x.about(3), 9);
        said(x, "55", 4);
        due("of the first VALUE", x.field(1, 3), 0);
        due("of the last VALUE", x.field(2, 3), 1);
        atHand(x, 2);
        said(x, "17 30", 5);
        said(x, "51", 4);
        due("of the one just ahead", x.field(11, 3), 1);
        atHand(x, 11);
        said(x, "17 20", 5);
        said(x, "50", 4);
        due("of the first VALUE", x.field(1, 3), 1);
        due("of the last VALUE", x.field(2, 3), 0);
    }

    private static void needsOthers() {
        sentence = "4: False for others";
        VoiceForm x = new VoiceForm();
        due("choice", x.choice(20, false, 50, 51, NONE, NONE, NONE, NONE), 0);
        due("digits", x.digits(21, 1, false, false), 1);
        due("choice", x.choice(22, false, 50, 51, 52, 53, 54, 55), 2);
        due("digits", x.digits(23, 1, false, false), 3);
        String stands = look(x);
        int[][] bad = {{0, 0, 0}, {0, 2, 0}, {0, NONE, 0}, {1, 1, 0}, {1, 2, 0}, {2, 2, 0}, {3, 3, 0}, {2, 3, 0},
            {2, 1, 0}, {3, 1, 0}, {1, 0, 2}, {1, 0, NONE}, {1, 0, LOW}, {1, 0, HIGH}, {3, 2, 6}, {3, 0, 2},
            {4, 0, 0}, {4, 3, 0}, {NONE, 0, 0}, {NONE, NONE, 0}, {LOW, 0, 0}, {HIGH, 0, 0}, {12, 0, 0}, {1, NONE, 0},
            {1, LOW, 0}, {1, HIGH, 0}, {3, 4, 0}, {LOW, LOW, LOW}};
        for (int[] b : bad) {
            due("needs(" + b[0] + ", " + b[1] + ", " + b[2] + ")", x.needs(b[0], b[1], b[2]), false);
            due("what stands", look(x), stands);
        }
        due("needs(1, 0, 1)", x.needs(1, 0, 1), true);
        due("needs(3, 2, 5)", x.needs(3, 2, 5), true);
        due("needs(1, 0, 2)", x.needs(1, 0, 2), false);
        due("needs(3, 1, 0)", x.needs(3, 1, 0), false);
        said(x, "51", 4);
        due("as was told", x.field(1, 3), 1);
        said(x, "7", 4);
        said(x, "55", 4);
        due("as was told", x.field(3, 3), 1);
    }

    private static void needsSaid() {
        sentence = "4: False ... if something was said";
        String[] rows = {"", "40", "50,51", "50", "13", "11"};
        int[] tells = {0, 1, 2, 4, 5, 6};
        for (int i = 0; i < rows.length; i++) {
            VoiceForm x = new VoiceForm();
            due("choice", x.choice(20, false, 50, 51, NONE, NONE, NONE, NONE), 0);
            due("digits", x.digits(21, 1, false, false), 1);
            due("digits", x.digits(22, 1, false, false), 2);
            due("needs(1, 0, 1)", x.needs(1, 0, 1), true);
            said(x, rows[i], tells[i]);
            String stands = look(x);
            due("needs(2, 0, 1)", x.needs(2, 0, 1), false);
            due("needs(1, 0, 0)", x.needs(1, 0, 0), false);
            due("what stands", look(x), stands);
            said(x, "17 20", 5);
            said(x, "51", 4);
            due("as was told", x.field(1, 3), 1);
            due("needs nothing", x.field(2, 3), 1);
        }
    }

    private static void needsTwice() {
        sentence = "4: A FIELD needs a VALUE of one ahead of it (told again: the later one)";
        VoiceForm x = new VoiceForm();
        due("choice", x.choice(20, false, 50, 51, NONE, NONE, NONE, NONE), 0);
        due("choice", x.choice(21, false, 50, 51, NONE, NONE, NONE, NONE), 1);
        due("digits", x.digits(22, 1, false, false), 2);
        due("needs(2, 0, 0)", x.needs(2, 0, 0), true);
        due("needs(2, 1, 1)", x.needs(2, 1, 1), true);
        said(x, "50", 4);
        due("the first of them alone", x.field(2, 3), 0);
        said(x, "51", 4);
        due("the later one", x.field(2, 3), 1);
        said(x, "17 20", 5);
        said(x, "51", 4);
        due("the later one", x.field(2, 3), 1);
    }

    private static void costsSet() {
        sentence = "5: NOISE, ORDER, NEAR: true";
        int[][] good = {{0, 0, 0}, {99, 99, 200}, {0, 99, 200}, {99, 0, 0}, {30, 5, 10}, {1, 2, 3}};
        VoiceForm x = withDigits(1);
        for (int[] g : good) {
            due("costs(" + g[0] + ", " + g[1] + ", " + g[2] + ")", x.costs(g[0], g[1], g[2]), true);
            said(x, "13/4 - -", 5);
            reading(x, 3, 0, 4 + 2 * g[0] + g[1]);
            // Of the words of one PLACE the OTHER is 99 dearer at most.
            said(x, "13,15/99", g[2] > 99 ? 2 : 5);
            said(x, "13,15", g[2] > 0 ? 2 : 5);
        }
        due("costs between PLACES and SAY", x.place(), 1);
        due("word", x.word(5, 1), 1);
        due("place()", x.place(), 2);
        due("costs", x.costs(50, 0, 0), true);
        due("say()", x.say(), 4);
        reading(x, 0, 5, 51);
    }

    private static void costsOthers() {
        sentence = "5: False, changing nothing, for others";
        VoiceForm x = withDigits(1);
        int[][] bad = {{NONE, 0, 0}, {100, 0, 0}, {0, NONE, 0}, {0, 100, 0}, {0, 0, NONE}, {0, 0, 201},
            {LOW, 0, 0}, {HIGH, 0, 0}, {0, LOW, 0}, {0, HIGH, 0}, {0, 0, LOW}, {0, 0, HIGH}};
        due("costs", x.costs(20, 3, 7), true);
        for (int[] b : bad) {
            due("costs(" + b[0] + ", " + b[1] + ", " + b[2] + ")", x.costs(b[0], b[1], b[2]), false);
            said(x, "13 -", 5);
            reading(x, 3, 0, 23);
            said(x, "13,15/6", 2);
            said(x, "13,15/7", 5);
        }
    }

    private static void placeMore() {
        sentence = "6: A PLACE more: how many. NONE if there are 8";
        VoiceForm x = withDigits(1);
        for (int i = 1; i <= 8; i++) {
            due("PLACES", x.about(8), i - 1);
            due("place()", x.place(), i);
        }
        for (int i = 0; i < 3; i++) {
            due("a ninth", x.place(), NONE);
            due("PLACES", x.about(8), 8);
        }
        due("the eighth is the latest", x.word(5, 2), 1);
        due("a ninth", x.place(), NONE);
        due("the eighth has it", x.word(5, 0), NONE);
        due("say()", x.say(), 4);
        reading(x, 0, 5, 212);
        due("PLACES", x.about(8), 0);
        for (int i = 1; i <= 8; i++) {
            due("place() behind a SAY", x.place(), i);
        }
        due("a ninth", x.place(), NONE);
        due("say()", x.say(), 1);
        said(x, "14", 5);
        due("place() while STOPPED", x.place(), 1);
        due("PLACES while STOPPED", x.about(8), 1);
        due("say()", x.say(), 1);
        due("PLACES", x.about(8), 0);
    }

    private static void wordMore() {
        sentence = "7: A WORD at a COST in the latest PLACE: how many it has";
        VoiceForm x = withDigits(2);
        due("place()", x.place(), 1);
        due("word(1, 99)", x.word(1, 99), 1);
        due("word(2, 3)", x.word(2, 3), 2);
        due("word(59, 0)", x.word(59, 0), 3);
        due("word(0, 50)", x.word(0, 50), 4);
        due("place()", x.place(), 2);
        due("word(1, 1)", x.word(1, 1), 1);
        due("word(2, 98)", x.word(2, 98), 2);
        due("say()", x.say(), 4);
        reading(x, 0, 21, 4);
        other(x, 0, 1, 51);
        value(x, 0, 21);
    }

    private static void wordOthers() {
        sentence = "7: NONE: no PLACE, others, it has it, or there are 4";
        VoiceForm x = withDigits(1, 1, 1);
        due("no PLACE", x.word(5, 0), NONE);
        due("PLACES", x.about(8), 0);
        due("place()", x.place(), 1);
        int[][] bad = {{NONE, 0}, {60, 0}, {LOW, 0}, {HIGH, 0}, {5, NONE}, {5, 100}, {5, LOW}, {5, HIGH}, {60, 100}};
        for (int count = 0; count <= 4; count++) {
            for (int[] b : bad) {
                due("word(" + b[0] + ", " + b[1] + ")", x.word(b[0], b[1]), NONE);
            }
            for (int i = 0; i < count; i++) {
                due("it has it", x.word(40 + i, 1), NONE);
            }
            due("word(" + (40 + count) + ", 2)", x.word(40 + count, 2), count < 4 ? count + 1 : NONE);
        }
        due("there are 4", x.word(5, 0), NONE);
        due("say()", x.say(), 1);
        due("no PLACE", x.word(5, 0), NONE);
        due("place()", x.place(), 1);
        due("what the PLACE before had", x.word(40, 0), 1);
        due("word(5, 7)", x.word(5, 7), 2);
        due("it has it, at less", x.word(5, 0), NONE);
        due("it has it, at more", x.word(5, 9), NONE);
        due("say()", x.say(), 4);
        reading(x, 0, 5, 7);
        due("no PLACE", x.word(5, 0), NONE);
        due("say()", x.say(), 0);
    }

    private static void sayTells() {
        sentence = "8: SAY (all that it tells)";
        VoiceForm x = new VoiceForm();
        due("digits", x.digits(20, 1, false, true), 0);
        due("digits", x.digits(21, 1, false, false), 1);
        String[] rows = {"", "40", "5,6", "15", "15", "7", "13", "15", "11", "11"};
        int[] tells = {0, 1, 2, 3, 4, 4, 5, 6, 5, 5};
        for (int i = 0; i < rows.length; i++) {
            said(x, rows[i], tells[i]);
            due("told(0)", x.told(0), tells[i]);
        }
        said(x, "11", 6);
        value(x, 0, 5);
        value(x, 1, 7);
    }

    private static void goesOn() {
        sentence = "9: A STOPPED talk goes on: true. False if it isn't";
        VoiceForm x = withDigits(1);
        due("goOn()", x.goOn(), false);
        due("STOPPED", x.about(4), 0);
        for (int round = 0; round < 2; round++) {
            said(x, "14", 5);
            due("STOPPED", x.about(4), 1);
            said(x, "5", 1);
            value(x, 0, NONE);
            due("place()", x.place(), 1);
            due("word(6, 0)", x.word(6, 0), 1);
            due("goOn()", x.goOn(), true);
            due("STOPPED", x.about(4), 0);
            due("goOn()", x.goOn(), false);
            due("PLACES stay", x.about(8), 1);
            due("word(13, 9)", x.word(13, 9), 2);
            due("costs", x.costs(30, 5, 0), true);
            due("say()", x.say(), 4);
            value(x, 0, 6);
            said(x, "17 20", 5);
            said(x, "16 - 7", 4);
            said(x, "17 20", 5);
            x = withDigits(1);
        }
        due("goOn()", x.goOn(), false);
    }

    private static void toldOfTheLatest() {
        sentence = "10: Of the latest SAY: 0 what it told, 1 the MEANING's sort, 2 its VALUE, 3 its COST, "
                + "4 .. 6 likewise of THE OTHER (NONE without)";
        VoiceForm x = withDigits(2, 1);
        said(x, "0 1,2/1", 2);
        due("told(0)", x.told(0), 2);
        reading(x, 0, 1, 0);
        other(x, 0, 2, 1);
        due("place()", x.place(), 1);
        due("word(9, 0)", x.word(9, 0), 1);
        due("costs", x.costs(0, 0, 0), true);
        due("goOn()", x.goOn(), false);
        due("hearBack()", x.hearBack(), 0);
        due("told(0)", x.told(0), 2);
        reading(x, 0, 1, 0);
        other(x, 0, 2, 1);
        due("say()", x.say(), 1);
        due("costs", x.costs(30, 5, 10), true);
        said(x, "15", 4);
        due("told(0)", x.told(0), 4);
        reading(x, 5, 0, 5);
        other(x, NONE, NONE, NONE);
        said(x, "17 21", 5);
        reading(x, 7, 1, 5);
        other(x, NONE, NONE, NONE);
        said(x, "17,16/50 20 8", 5);
        reading(x, 7, 0, 35);
        other(x, 0, 8, 60);
    }

    private static void toldHowManyFell() {
        sentence = "10: 7 how many VALUES FELL by it";
        VoiceForm x = new VoiceForm();
        due("choice", x.choice(20, false, 50, 51, 52, NONE, NONE, NONE), 0);
        for (int f = 1; f < 12; f++) {
            due("digits", x.digits(20 + f, 1, false, false), f);
            due("needs", x.needs(f, 0, 0), true);
        }
        due("told(7)", x.told(7), NONE);
        said(x, "50", 4);
        due("told(7)", x.told(7), 0);
        for (int f = 1; f < 12; f++) {
            said(x, "5", 4);
            due("told(7)", x.told(7), 0);
        }
        said(x, "17 20", 5);
        said(x, "51,52/1", 2);
        due("told(7) of 2", x.told(7), 0);
        said(x, "15", 4);
        due("told(7)", x.told(7), 11);
        due("told(7) again", x.told(7), 11);
        said(x, "40", 1);
        due("told(7) of 1", x.told(7), 0);
        said(x, "16 52", 4);
        due("told(7)", x.told(7), 0);
        said(x, "16 50", 4);
        said(x, "17 25", 5);
        said(x, "5", 4);
        said(x, "17 20", 5);
        said(x, "51", 4);
        due("told(7)", x.told(7), 1);
        due("say()", x.say(), 0);
        due("told(7) of 0", x.told(7), 0);
    }

    private static void toldDigitsDiffer() {
        sentence = "10: 8 (of 2, both ANSWERS of DIGITS): which digits differ (bits, the first lowest; else 0)";
        VoiceForm x = withDigits(8, 1);
        due("told(8)", x.told(8), NONE);
        for (int i = 0; i < 8; i++) {
            StringBuilder row = new StringBuilder();
            for (int p = 0; p < 8; p++) {
                row.append(p == 0 ? "" : " ").append(p == i ? "0,9/1" : "9");
            }
            said(x, row.toString(), 2);
            due("told(8), digit " + i, x.told(8), 1 << i);
        }
        said(x, "40", 1);
        due("told(8) of 1", x.told(8), 0);
        said(x, "", 0);
        due("told(8) of 0", x.told(8), 0);
        said(x, "0 0 0 0 0 0 0 0,1/10", 4);
        due("told(8) of 4", x.told(8), 0);
        said(x, "3,4", 2);
        due("told(8) of one digit", x.told(8), 1);
        said(x, "3,13", 2);
        due("told(8) of an ANSWER and LEFT", x.told(8), 0);
        said(x, "13,14", 2);
        due("told(8) of ORDERS", x.told(8), 0);
        due("costs", x.costs(30, 0, 10), true);
        said(x, "3/1,13", 2);
        reading(x, 3, 0, 0);
        other(x, 0, 3, 1);
        due("told(8) of LEFT and an ANSWER", x.told(8), 0);
        VoiceForm y = withDigits(2, 2);
        said(y, "1 2", 4);
        said(y, "16 1 2,3", 2);
        reading(y, 8, 12, 5);
        other(y, 8, 13, 5);
        due("told(8) of MENDS", y.told(8), 0);
        VoiceForm z = new VoiceForm();
        due("choice", z.choice(20, false, 50, 51, NONE, NONE, NONE, NONE), 0);
        due("digits", z.digits(21, 8, true, false), 1);
        said(z, "50,51", 2);
        due("told(8) of a CHOICE", z.told(8), 0);
        said(z, "15", 4);
        due("costs", z.costs(99, 99, 200), true);
        said(z, "0,9/1 0 0 0 0 0,9/1 0 0,2/1", 2);
        reading(z, 0, 0, 0);
        other(z, 0, 90000902, 3);
        due("told(8) of CHECK", z.told(8), 1 + 32 + 128);
        said(z, "0 0 0 0 0 0 0 0", 4);
        said(z, "0,2/1", 1);
        due("told(8) at the END", z.told(8), 0);
    }

    private static void toldOthers() {
        sentence = "10: NONE for others ... and ahead of any";
        VoiceForm x = withDigits(1);
        int[] all = {LOW, -2, NONE, 0, 1, 2, 3, 4, 5, 6, 7, 8, 9, 10, HIGH};
        for (int what : all) {
            due("told(" + what + ") ahead of any", x.told(what), NONE);
        }
        due("place()", x.place(), 1);
        due("word(3, 0)", x.word(3, 0), 1);
        due("word(4, 0)", x.word(4, 0), 2);
        for (int what : all) {
            due("told(" + what + ") ahead of any", x.told(what), NONE);
        }
        due("say()", x.say(), 2);
        int[] want = {2, 0, 3, 0, 0, 4, 0, 0, 1};
        for (int what : all) {
            due("told(" + what + ")", x.told(what), what >= 0 && what <= 8 ? want[what] : NONE);
        }
    }

    private static void toldWithoutAReading() {
        sentence = "10: NONE ... without a READING (1 .. 6)";
        VoiceForm x = withDigits(1);
        String[] rows = {"", "40", "3,4/1", "-", "", "14", "5", ""};
        int[] tells = {0, 1, 2, 1, 0, 5, 1, 1};
        for (int i = 0; i < rows.length; i++) {
            said(x, rows[i], tells[i]);
            due("told(0)", x.told(0), tells[i]);
            due("told(7)", x.told(7), 0);
            due("told(8)", x.told(8), tells[i] == 2 ? 1 : 0);
            if (tells[i] < 2) {
                reading(x, NONE, NONE, NONE);
                other(x, NONE, NONE, NONE);
            } else {
                reading(x, tells[i] == 2 ? 0 : 4, tells[i] == 2 ? 3 : 0, tells[i] == 2 ? 0 : 5);
            }
        }
    }

    private static void aboutSays() {
        sentence = "11: 5 how many SAYS told 0 or 1 one behind the other (9 at most)";
        VoiceForm x = withDigits(1, 1, 1);
        due("about(5)", x.about(5), 0);
        for (int i = 1; i <= 12; i++) {
            said(x, i % 3 == 0 ? "40" : "", i % 3 == 0 ? 1 : 0);
            due("about(5)", x.about(5), Math.min(i, 9));
        }
        String[] rows = {"3,4", "3", "13", "11", "15"};
        int[] tells = {2, 4, 5, 5, 6};
        for (int i = 0; i < rows.length; i++) {
            said(x, rows[i], tells[i]);
            due("about(5) behind " + tells[i], x.about(5), 0);
            said(x, "", 0);
            due("about(5)", x.about(5), 1);
            said(x, "40", 1);
            due("about(5)", x.about(5), 2);
        }
        VoiceForm y = new VoiceForm();
        due("digits", y.digits(20, 1, false, true), 0);
        said(y, "", 0);
        said(y, "5", 3);
        due("about(5) behind 3", y.about(5), 0);
        said(y, "14", 5);
        for (int i = 1; i <= 10; i++) {
            said(y, "5", 1);
            due("about(5) while STOPPED", y.about(5), Math.min(i, 9));
        }
        due("goOn()", y.goOn(), true);
        due("about(5) behind goOn", y.about(5), 9);
        said(y, "", 0);
        due("about(5)", y.about(5), 9);
    }

    private static void aboutCounts() {
        sentence = "11: 3 FIELDS ASKED FOR without a VALUE ... 6 FIELDS, 7 FIELDS with a VALUE that weren't HEARD "
                + "BACK, 8 PLACES HEARD";
        VoiceForm x = new VoiceForm();
        due("choice", x.choice(20, false, 50, 51, NONE, NONE, NONE, NONE), 0);
        for (int f = 1; f < 12; f++) {
            due("about(6)", x.about(6), f);
            due("about(3)", x.about(3), f);
            due("digits", x.digits(20 + f, 1, false, false), f);
        }
        due("needs", x.needs(11, 0, 1), true);
        due("about(3)", x.about(3), 11);
        due("about(6)", x.about(6), 12);
        for (int f = 0; f < 11; f++) {
            due("about(3)", x.about(3), 11 - f);
            due("about(7)", x.about(7), f);
            said(x, f == 0 ? "50" : "5", 4);
        }
        due("about(3)", x.about(3), 0);
        due("about(7)", x.about(7), 11);
        due("hearBack()", x.hearBack(), 11);
        due("about(7)", x.about(7), 0);
        due("about(3)", x.about(3), 0);
        said(x, "17 20", 5);
        said(x, "51", 4);
        due("about(3)", x.about(3), 1);
        due("about(7)", x.about(7), 1);
        atHand(x, 11);
        due("about(8)", x.about(8), 0);
        due("place()", x.place(), 1);
        due("about(8)", x.about(8), 1);
    }

    private static void aboutOthers() {
        sentence = "11: NONE for others";
        VoiceForm x = withDigits(1, 1);
        for (int round = 0; round < 2; round++) {
            for (int what : new int[] {LOW, -2, NONE, 9, 10, HIGH}) {
                due("about(" + what + ")", x.about(what), NONE);
            }
            for (int what = 2; what <= 8; what++) {
                due("about(" + what + ") is none", x.about(what) == NONE, false);
            }
            said(x, "5", 4);
        }
    }

    private static void fieldOfDigitsAndChoice() {
        sentence = "12: 1 DIGITS (0 of a CHOICE), 2 WORDS (0 of DIGITS), 3 whether it is ASKED FOR, 4 whether it has "
                + "a VALUE, 5 HEARD BACK, 6 SKIPPED (1, 0), 7 its VALUE as a number (NONE without)";
        VoiceForm x = new VoiceForm();
        due("choice", x.choice(30, false, 50, 51, 52, 53, 54, 55), 0);
        due("digits", x.digits(31, 8, false, false), 1);
        due("needs", x.needs(1, 0, 5), true);
        fieldIs(x, 0, 30, 0, 6, 1, 0, 0, 0, NONE);
        fieldIs(x, 1, 31, 8, 0, 0, 0, 0, 0, NONE);
        said(x, "12", 5);
        fieldIs(x, 0, 30, 0, 6, 1, 0, 0, 1, NONE);
        said(x, "17 30", 5);
        said(x, "55", 4);
        fieldIs(x, 0, 30, 0, 6, 1, 1, 0, 0, 5);
        fieldIs(x, 1, 31, 8, 0, 1, 0, 0, 0, NONE);
        said(x, "0 0 0 0 0 0 0 0", 4);
        fieldIs(x, 1, 31, 8, 0, 1, 1, 0, 0, 0);
        due("hearBack()", x.hearBack(), 2);
        fieldIs(x, 0, 30, 0, 6, 1, 1, 1, 0, 5);
        fieldIs(x, 1, 31, 8, 0, 1, 1, 1, 0, 0);
        said(x, "17 30", 5);
        said(x, "50", 4);
        fieldIs(x, 0, 30, 0, 6, 1, 1, 0, 0, 0);
        fieldIs(x, 1, 31, 8, 0, 0, 0, 0, 0, NONE);
    }

    private static void fieldIs(VoiceForm x, int f, int... want) {
        for (int what = 0; what < want.length; what++) {
            due("field(" + f + ", " + what + ")", x.field(f, what), want[what]);
        }
    }

    private static void fieldOthers() {
        sentence = "12: NONE for others";
        for (int count = 0; count <= 12; count++) {
            VoiceForm x = new VoiceForm();
            for (int f = 0; f < count; f++) {
                due("digits", x.digits(20 + f, 1, false, false), f);
            }
            for (int f : new int[] {LOW, -2, NONE, count, count + 1, 12, 13, HIGH}) {
                for (int what = -1; what <= 8; what++) {
                    due("field(" + f + ", " + what + ")", x.field(f, what), NONE);
                }
            }
            for (int f = 0; f < count; f++) {
                due("NAME", x.field(f, 0), 20 + f);
                for (int what : new int[] {LOW, -2, NONE, 8, 9, HIGH}) {
                    due("field(" + f + ", " + what + ")", x.field(f, what), NONE);
                }
            }
        }
    }

    private static void hearBackCounts() {
        sentence = "13: All FIELDS ASKED FOR that have a VALUE are heard back: how many weren't";
        VoiceForm x = new VoiceForm();
        due("digits", x.digits(20, 1, false, true), 0);
        for (int f = 1; f < 12; f++) {
            due("digits", x.digits(20 + f, 1, false, false), f);
        }
        due("hearBack()", x.hearBack(), 0);
        said(x, "5", 3);
        due("hearBack() of a VALUE that WAITS", x.hearBack(), 0);
        waits(x, 1);
        said(x, "15", 4);
        due("hearBack() of one that was read back", x.hearBack(), 0);
        said(x, "5", 4);
        due("hearBack()", x.hearBack(), 1);
        due("hearBack() again", x.hearBack(), 0);
        due("HEARD BACK without a VALUE", x.field(2, 5), 0);
        for (int f = 2; f < 12; f++) {
            said(x, "5", 4);
        }
        due("hearBack()", x.hearBack(), 10);
        for (int f = 0; f < 12; f++) {
            due("HEARD BACK", x.field(f, 5), 1);
        }
        said(x, "16 6", 4);
        due("HEARD BACK", x.field(11, 5), 0);
        due("hearBack()", x.hearBack(), 1);
        due("hearBack() of an empty form", new VoiceForm().hearBack(), 0);
    }

    private static void hearBackAskedFor() {
        sentence = "13: All FIELDS ASKED FOR that have a VALUE (one that FELL has none)";
        VoiceForm x = new VoiceForm();
        due("choice", x.choice(20, false, 50, 51, NONE, NONE, NONE, NONE), 0);
        due("digits", x.digits(21, 1, false, false), 1);
        due("needs", x.needs(1, 0, 0), true);
        said(x, "50", 4);
        said(x, "5", 4);
        said(x, "17 20", 5);
        said(x, "51", 4);
        due("hearBack()", x.hearBack(), 1);
        due("HEARD BACK", x.field(1, 5), 0);
        said(x, "16 50", 4);
        due("hearBack()", x.hearBack(), 1);
        due("HEARD BACK", x.field(1, 5), 0);
        said(x, "17 21", 5);
        said(x, "5", 4);
        due("HEARD BACK", x.field(1, 5), 0);
        due("hearBack()", x.hearBack(), 1);
        due("HEARD BACK", x.field(1, 5), 1);
    }

    private static void sendOpen() {
        sentence = "14: False: a FIELD ASKED FOR has no VALUE";
        VoiceForm x = new VoiceForm();
        due("choice", x.choice(20, false, 50, 51, NONE, NONE, NONE, NONE), 0);
        due("digits", x.digits(21, 1, false, false), 1);
        due("digits", x.digits(22, 1, false, false), 2);
        due("needs", x.needs(1, 0, 0), true);
        due("no VALUE", x.send(), false);
        said(x, "51", 4);
        due("hearBack()", x.hearBack(), 1);
        due("one without a VALUE", x.send(), false);
        said(x, "12", 5);
        due("that was SKIPPED", x.send(), false);
        said(x, "17 22", 5);
        said(x, "5", 4);
        due("hearBack()", x.hearBack(), 1);
        due("one that isn't ASKED FOR has none", x.send(), true);
        said(x, "17 20", 5);
        said(x, "50", 4);
        due("hearBack()", x.hearBack(), 1);
        due("it is ASKED FOR now", x.send(), false);
        said(x, "7", 4);
        due("hearBack()", x.hearBack(), 1);
        due("send()", x.send(), true);
        VoiceForm y = new VoiceForm();
        due("digits", y.digits(20, 1, false, true), 0);
        said(y, "5", 3);
        due("a VALUE that WAITS", y.send(), false);
        said(y, "15", 4);
        due("send()", y.send(), true);
    }

    private static void sendNotHeardBack() {
        sentence = "14: False: ... or one wasn't HEARD BACK";
        VoiceForm x = withDigits(1, 1);
        said(x, "5", 4);
        due("hearBack()", x.hearBack(), 1);
        said(x, "6", 4);
        due("one wasn't", x.send(), false);
        due("hearBack()", x.hearBack(), 1);
        said(x, "16 6", 4);
        due("kept once more", x.send(), false);
        due("hearBack()", x.hearBack(), 1);
        due("send()", x.send(), true);
        VoiceForm y = new VoiceForm();
        due("digits", y.digits(20, 2, true, true), 0);
        said(y, "1 8", 4);
        due("CHECK isn't HEARD BACK", y.send(), false);
        due("hearBack()", y.hearBack(), 1);
        due("send()", y.send(), true);
    }

    private static void sendTwice() {
        sentence = "14: False: ... or it was sent, and no VALUE was kept since";
        VoiceForm x = new VoiceForm();
        due("digits", x.digits(20, 1, false, true), 0);
        said(x, "5", 3);
        said(x, "15", 4);
        due("send()", x.send(), true);
        due("send() again", x.send(), false);
        due("hearBack()", x.hearBack(), 0);
        String[] rows = {"13", "11", "12", "17 20", "", "40", "5,6", "14"};
        int[] tells = {5, 5, 5, 5, 0, 1, 2, 5};
        for (int i = 0; i < rows.length; i++) {
            said(x, rows[i], tells[i]);
            due("send() behind '" + rows[i] + "'", x.send(), false);
        }
        due("goOn()", x.goOn(), true);
        due("send() behind goOn", x.send(), false);
        said(x, "6", 3);
        due("send() while a VALUE WAITS", x.send(), false);
        said(x, "16", 5);
        due("send() behind NO", x.send(), false);
        said(x, "5", 3);
        said(x, "15", 4);
        due("the same VALUE was kept", x.send(), true);
        due("send() again", x.send(), false);
        // What was refused isn't sent: it can be sent as soon as nothing hinders it.
        VoiceForm y = withDigits(1);
        due("no VALUE", y.send(), false);
        said(y, "5", 4);
        due("not HEARD BACK", y.send(), false);
        due("hearBack()", y.hearBack(), 1);
        due("send()", y.send(), true);
        said(y, "16 6", 4);
        due("not HEARD BACK", y.send(), false);
        due("hearBack()", y.hearBack(), 1);
        due("send()", y.send(), true);
        due("send() again", y.send(), false);
    }

    private static void sendOfNoFields() {
        sentence = "14: The form is sent: true (without FIELDS nothing hinders it)";
        VoiceForm x = new VoiceForm();
        due("send()", x.send(), true);
        due("send() again", x.send(), false);
        said(x, "13", 5);
        due("send() again", x.send(), false);
    }

    private static void manyCalls() {
        sentence = "An object is used for at most 512 calls after it has been made";
        VoiceForm x = withDigits(1, 1);
        int calls = 2;
        for (int i = 0; calls + 5 < 512; i++) {
            said(x, i % 2 == 0 ? "16,12/99" : "13", i % 2 == 0 ? 6 : 5);
            calls += i % 2 == 0 ? 4 : 3;
        }
        due("place()", x.place(), 1);
        due("word(5, 0)", x.word(5, 0), 1);
        due("say()", x.say(), 4);
        due("about(0)", x.about(0), 1);
        // What later calls answer is free; that they end is not.
        for (int i = 0; i < 2000; i++) {
            x.place();
            x.word(i % 60, 0);
            x.say();
            x.goOn();
            x.hearBack();
            x.send();
        }
    }
}

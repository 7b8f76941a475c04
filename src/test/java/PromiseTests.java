/** For each promise of the document: ordinary calls, the edges that it names, and wrong ones. */
public final class PromiseTests {
    private static final int NONE = -1;
    private static final int LOW = Integer.MIN_VALUE;
    private static final int HIGH = Integer.MAX_VALUE;

    private static int wrong = 0;
    private static String part = "";

    public static void main(String[] args) {
        aNewObject();
        digits();
        choice();
        needs();
        needsFallInARow();
        costs();
        places();
        words();
        readingsOfDigits();
        readingsWithDouble();
        readingsWithCheck();
        readingsOfOrders();
        likeReadings();
        theOther();
        askedWhich();
        readBack();
        kept();
        theNext();
        backAndThePile();
        skip();
        go();
        mend();
        stopAndGoOn();
        told();
        about();
        field();
        hearBack();
        send();
        System.out.println(wrong == 0 ? "all answers are as due" : wrong + " answers are not as due");
        if (wrong != 0) {
            System.exit(1);
        }
    }

    private static void due(String call, int got, int want) {
        if (got != want) {
            wrong++;
            System.out.println(part + ": " + call + " answered " + got + ", due is " + want);
        }
    }

    private static void due(String call, boolean got, boolean want) {
        due(call, got ? 1 : 0, want ? 1 : 0);
    }

    /** Says a row of PLACES: "1 7/4,8 -" is 1; 7 at 4 or 8; a PLACE without words. A word without a cost costs 0. */
    private static int say(VoiceForm x, String row) {
        for (String place : row.isEmpty() ? new String[0] : row.split(" ")) {
            x.place();
            for (String word : place.equals("-") ? new String[0] : place.split(",")) {
                String[] parts = word.split("/");
                x.word(Integer.parseInt(parts[0]), parts.length > 1 ? Integer.parseInt(parts[1]) : 0);
            }
        }
        return x.say();
    }

    private static void said(VoiceForm x, String row, int want) {
        due("say of '" + row + "'", say(x, row), want);
    }

    private static void reading(VoiceForm x, int sort, int value, int cost) {
        due("told(1)", x.told(1), sort);
        due("told(2)", x.told(2), value);
        due("told(3)", x.told(3), cost);
    }

    private static void other(VoiceForm x, int sort, int value, int cost) {
        due("told(4)", x.told(4), sort);
        due("told(5)", x.told(5), value);
        due("told(6)", x.told(6), cost);
    }

    private static void atHand(VoiceForm x, int want) {
        due("about(0)", x.about(0), want);
    }

    private static void waits(VoiceForm x, int want) {
        due("about(2)", x.about(2), want);
    }

    private static VoiceForm withDigits(int... lengths) {
        VoiceForm x = new VoiceForm();
        for (int i = 0; i < lengths.length; i++) {
            due("digits", x.digits(20 + i, lengths[i], false, false), i);
        }
        return x;
    }

    private static void aNewObject() {
        part = "1 a new object";
        VoiceForm x = new VoiceForm();
        due("NONE", VoiceForm.NONE, NONE);
        int[] want = {NONE, NONE, 0, 0, 0, 0, 0, 0, 0};
        for (int what = 0; what < want.length; what++) {
            due("about(" + what + ")", x.about(what), want[what]);
            due("told(" + what + ")", x.told(what), NONE);
        }
        due("field(0, 0)", x.field(0, 0), NONE);
        due("goOn()", x.goOn(), false);
        due("hearBack()", x.hearBack(), 0);
        said(x, "", 0);
        said(x, "1", 1);
        said(x, "12", 6);
        said(x, "11", 6);
        said(x, "13", 5);
        VoiceForm y = new VoiceForm();
        y.digits(20, 1, false, false);
        due("FIELDS of another object", x.about(6), 0);
    }

    private static void digits() {
        part = "2 digits";
        VoiceForm x = new VoiceForm();
        due("name 19", x.digits(19, 1, false, false), NONE);
        due("name 60", x.digits(60, 1, false, false), NONE);
        due("name -1", x.digits(NONE, 1, false, false), NONE);
        due("name low", x.digits(LOW, 1, false, false), NONE);
        due("length 0", x.digits(20, 0, false, false), NONE);
        due("length 9", x.digits(20, 9, false, false), NONE);
        due("length low", x.digits(20, LOW, false, false), NONE);
        due("length high", x.digits(20, HIGH, false, false), NONE);
        atHand(x, NONE);
        due("first", x.digits(20, 1, false, false), 0);
        atHand(x, 0);
        due("same name", x.digits(20, 2, false, false), NONE);
        due("last name, most digits", x.digits(59, 8, true, true), 1);
        for (int i = 2; i < 12; i++) {
            due("field " + i, x.digits(20 + i, 1, false, false), i);
        }
        due("a thirteenth", x.digits(50, 1, false, false), NONE);
        due("a thirteenth", x.choice(50, false, 30, NONE, NONE, NONE, NONE, NONE), NONE);
        due("FIELDS", x.about(6), 12);

        VoiceForm y = withDigits(1);
        due("say", y.say(), 0);
        due("behind a SAY", y.digits(30, 1, false, false), NONE);
    }

    private static void choice() {
        part = "3 choice";
        VoiceForm x = new VoiceForm();
        due("no words", x.choice(20, false, NONE, 30, 31, 32, 33, 34), NONE);
        due("word 19", x.choice(20, false, 30, 19, NONE, NONE, NONE, NONE), NONE);
        due("word 60", x.choice(20, false, 60, NONE, NONE, NONE, NONE, NONE), NONE);
        due("word -2", x.choice(20, false, 30, -2, NONE, NONE, NONE, NONE), NONE);
        due("word low", x.choice(20, false, LOW, NONE, NONE, NONE, NONE, NONE), NONE);
        due("a word twice", x.choice(20, false, 30, 31, 32, 33, 34, 30), NONE);
        due("name 19", x.choice(19, false, 30, NONE, NONE, NONE, NONE, NONE), NONE);
        due("name 60", x.choice(60, false, 30, NONE, NONE, NONE, NONE, NONE), NONE);
        due("six words", x.choice(20, false, 59, 30, 31, 32, 33, 34), 0);
        due("none counts behind NONE", x.choice(21, true, 30, 31, NONE, 30, 5, HIGH), 1);
        due("words", x.field(0, 2), 6);
        due("words", x.field(1, 2), 2);
        due("its own name as a word", x.choice(22, false, 22, NONE, NONE, NONE, NONE, NONE), 2);
        due("a name that another has", x.choice(21, false, 30, NONE, NONE, NONE, NONE, NONE), NONE);
        said(x, "34", 4);
        reading(x, 0, 5, 0);
        due("behind a SAY", x.choice(40, false, 30, NONE, NONE, NONE, NONE, NONE), NONE);
    }

    private static void needs() {
        part = "4 needs";
        VoiceForm x = new VoiceForm();
        due("no fields", x.needs(0, 0, 0), false);
        x.choice(20, false, 30, 31, NONE, NONE, NONE, NONE);
        x.digits(21, 1, false, false);
        x.digits(22, 1, false, false);
        due("itself", x.needs(0, 0, 0), false);
        due("one behind it", x.needs(0, 1, 0), false);
        due("of digits", x.needs(2, 1, 0), false);
        due("value 2", x.needs(1, 0, 2), false);
        due("value -1", x.needs(1, 0, NONE), false);
        due("value low", x.needs(1, 0, LOW), false);
        due("no such field", x.needs(3, 0, 0), false);
        due("no such field", x.needs(NONE, 0, 0), false);
        due("no such field", x.needs(HIGH, 0, 0), false);
        due("no such other", x.needs(1, NONE, 0), false);
        due("no such other", x.needs(1, LOW, 0), false);
        due("needs nothing", x.field(1, 3), 1);
        due("needs", x.needs(1, 0, 0), true);
        due("ASKED FOR", x.field(1, 3), 0);
        due("FIELDS ASKED FOR", x.about(3), 2);
        due("the later need stands", x.needs(1, 0, 1), true);
        said(x, "31", 4);
        due("ASKED FOR", x.field(1, 3), 1);
        atHand(x, 1);
        due("behind a SAY", x.needs(2, 0, 0), false);
        VoiceForm y = new VoiceForm();
        y.choice(20, false, 30, NONE, NONE, NONE, NONE, NONE);
        y.digits(21, 1, false, false);
        due("say", y.say(), 0);
        due("behind a SAY of nothing", y.needs(1, 0, 0), false);
    }

    private static VoiceForm chain() {
        VoiceForm x = new VoiceForm();
        x.choice(20, false, 30, 31, NONE, NONE, NONE, NONE);
        x.choice(21, false, 30, 31, NONE, NONE, NONE, NONE);
        x.choice(22, false, 30, 31, NONE, NONE, NONE, NONE);
        x.digits(23, 1, false, false);
        due("needs", x.needs(1, 0, 0), true);
        due("needs", x.needs(2, 1, 0), true);
        due("needs", x.needs(3, 2, 0), true);
        return x;
    }

    private static void needsFallInARow() {
        part = "4 needs, in a row";
        VoiceForm x = chain();
        due("open", x.about(3), 1);
        said(x, "30", 4);
        said(x, "30", 4);
        said(x, "30", 4);
        said(x, "7", 4);
        due("unheard", x.about(7), 4);
        due("hearBack()", x.hearBack(), 4);
        said(x, "17 20", 5);
        said(x, "31", 4);
        due("fallen", x.told(7), 3);
        for (int f = 1; f < 4; f++) {
            due("ASKED FOR", x.field(f, 3), 0);
            due("has a VALUE", x.field(f, 4), 0);
            due("HEARD BACK", x.field(f, 5), 0);
            due("VALUE", x.field(f, 7), NONE);
        }
        atHand(x, NONE);
        due("LAST", x.about(1), 0);
        due("fallen by the SAY before", x.say(), 0);
        due("fallen", x.told(7), 0);
        said(x, "16 30", 4);
        due("only the next one is asked for", x.about(3), 1);
        due("the END stays", x.about(0), NONE);
    }

    private static void costs() {
        part = "5 costs";
        VoiceForm x = withDigits(1, 1, 1);
        int[][] bad = {{NONE, 0, 0}, {100, 0, 0}, {0, NONE, 0}, {0, 100, 0}, {0, 0, NONE}, {0, 0, 201},
            {LOW, HIGH, 0}, {HIGH, 0, LOW}};
        for (int[] b : bad) {
            due("costs", x.costs(b[0], b[1], b[2]), false);
        }
        said(x, "1 40", 4);
        reading(x, 0, 1, 30);
        said(x, "13 40", 5);
        reading(x, 3, 0, 35);
        said(x, "1,2/9", 2);
        said(x, "1,2/10", 4);
        due("costs", x.costs(99, 99, 200), true);
        said(x, "1,2/99", 2);
        said(x, "13 40", 5);
        reading(x, 3, 0, 198);
        due("costs", x.costs(0, 0, 0), true);
        said(x, "5,6 -", 4);
        reading(x, 0, 5, 0);
        other(x, 0, 6, 0);
    }

    private static void places() {
        part = "6 place";
        VoiceForm x = withDigits(1);
        for (int i = 1; i <= 8; i++) {
            due("place()", x.place(), i);
        }
        due("a ninth", x.place(), NONE);
        due("PLACES", x.about(8), 8);
        due("no words", x.say(), 1);
        due("PLACES", x.about(8), 0);
        due("place()", x.place(), 1);
    }

    private static void words() {
        part = "7 word";
        VoiceForm x = withDigits(1);
        due("no PLACE", x.word(1, 0), NONE);
        x.place();
        due("word 60", x.word(60, 0), NONE);
        due("word -1", x.word(NONE, 0), NONE);
        due("word low", x.word(LOW, 0), NONE);
        due("cost -1", x.word(1, NONE), NONE);
        due("cost 100", x.word(1, 100), NONE);
        due("first", x.word(0, 99), 1);
        due("it has it", x.word(0, 1), NONE);
        due("of those that mean nothing", x.word(18, 0), 2);
        due("third", x.word(19, 0), 3);
        due("fourth", x.word(59, 0), 4);
        due("fifth", x.word(2, 0), NONE);
        x.place();
        due("a new PLACE", x.word(0, 5), 1);
        due("say", x.say(), 4);
        reading(x, 0, 0, 35);
        due("none is left", x.word(3, 0), NONE);
        x.place();
        due("words of the PLACE before are gone", x.word(0, 0), 1);
    }

    private static void readingsOfDigits() {
        part = "8 say: digits";
        VoiceForm x = withDigits(8, 3, 3, 2);
        said(x, "0 1 2 3 4 5 6 7", 4);
        reading(x, 0, 1234567, 0);
        other(x, NONE, NONE, NONE);
        said(x, "1 2", 1);
        reading(x, NONE, NONE, NONE);
        said(x, "9/3 9/4 9/5", 4);
        reading(x, 0, 999, 12);
        said(x, "1 40 2 18 3 -", 4);
        reading(x, 0, 123, 90);
        said(x, "1/99 2/99 3/99", 2);
        reading(x, 0, 12, 228);
        other(x, 0, 13, 228);
        x = withDigits(8);
        x.costs(0, 0, 0);
        said(x, "9,8,7,6 9,8,7,6 9,8,7,6 9,8,7,6 9,8,7,6 9,8,7,6 9,8,7,6 9,8,7,6", 4);
        reading(x, 0, 66666666, 0);
        other(x, 0, 66666667, 0);
    }

    private static void readingsWithDouble() {
        part = "8 say: DOUBLE";
        VoiceForm x = withDigits(2, 3, 3, 1, 8, 3);
        said(x, "10 7", 4);
        reading(x, 0, 77, 0);
        said(x, "4 10 0", 4);
        reading(x, 0, 400, 0);
        said(x, "10 5 10 6", 2);
        reading(x, 0, 556, 30);
        other(x, 0, 566, 30);
        due("told(8)", x.told(8), 2);
    }

    private static void readingsWithCheck() {
        part = "8 say: CHECK";
        VoiceForm x = new VoiceForm();
        x.digits(20, 4, true, false);
        x.digits(21, 1, true, false);
        x.digits(22, 2, true, false);
        x.digits(23, 3, true, false);
        x.digits(24, 8, true, false);
        said(x, "1 2 3 4", 1);
        // 1 2 3 4: 2 + 2 + 6 + 4 = 14, so that 0 is due in place of 4.
        said(x, "1 2 3 4,0/50", 4);
        reading(x, 0, 1230, 50);
        said(x, "7,0/80", 4);
        reading(x, 0, 0, 80);
        // 5 is doubled to 10, less 9 is 1.
        said(x, "5 8,9/20", 4);
        reading(x, 0, 59, 20);
        // 9 is doubled to 18, less 9 is 9; the first of three stays as it is.
        said(x, "1 10 0", 1);
        said(x, "10 9 2", 4);
        reading(x, 0, 992, 0);
        // The cheapest rows break CHECK: 4 4 4 4 4 4 4 4 is 4 * (8 + 4) = 48.
        said(x, "4 4 4 4 4 4 4,3/1,5/9 4,6/7,2/8", 4);
        reading(x, 0, 44444446, 7);
    }

    private static void readingsOfOrders() {
        part = "8 say: orders";
        VoiceForm x = withDigits(1, 1);
        said(x, "1", 4);
        int[] tells = {5, 5, 5, 5, 6, 6};
        for (int sort = 3; sort <= 6; sort++) {
            x.goOn();
            said(x, "40 " + (sort + 10) + "/2", tells[sort - 1]);
            reading(x, sort, 0, 37);
        }
        x.goOn();
        said(x, "17", 1);
        said(x, "20", 1);
        said(x, "20 17", 1);
        said(x, "17 40", 1);
        said(x, "18", 1);
        said(x, "10", 1);
        said(x, "17/3 50 20/4", 5);
        reading(x, 7, 0, 42);
        said(x, "12 16", 2);
        reading(x, 2, 0, 35);
        other(x, 6, 0, 35);
    }

    private static void likeReadings() {
        part = "8 say: of like ones";
        VoiceForm x = withDigits(1, 1);
        x.costs(30, 0, 0);
        said(x, "7,3,9,11", 4);
        reading(x, 0, 3, 0);
        other(x, 0, 7, 0);
        said(x, "16,15,14,13", 5);
        reading(x, 3, 0, 0);
        other(x, 4, 0, 0);
        said(x, "17 21,20", 5);
        reading(x, 7, 0, 0);
        other(x, 7, 1, 0);
    }

    private static void theOther() {
        part = "8 say: THE OTHER";
        VoiceForm x = withDigits(2, 1);
        said(x, "1,2/5 10,3/1 3", 2);
        // 33 by DOUBLE with a NOISE ahead of it; 13 by either 3.
        reading(x, 0, 13, 30);
        other(x, 0, 33, 30);
        due("told(8)", x.told(8), 1);
        x = withDigits(1);
        said(x, "4 4/9 4/3", 4);
        reading(x, 0, 4, 60);
        other(x, NONE, NONE, NONE);
    }

    private static void askedWhich() {
        part = "8 say: which";
        VoiceForm x = withDigits(2, 1, 1);
        said(x, "1 2,3/9", 2);
        waits(x, 2);
        due("told(8)", x.told(8), 2);
        said(x, "40", 1);
        waits(x, 2);
        said(x, "", 0);
        waits(x, 2);
        said(x, "16", 4);
        due("VALUE", x.field(0, 7), 13);
        waits(x, 0);
        said(x, "1,2", 2);
        said(x, "3,4", 2);
        said(x, "15", 4);
        due("VALUE", x.field(1, 7), 3);
        said(x, "1,2", 2);
        said(x, "5", 4);
        due("anything else", x.field(2, 7), 5);
        waits(x, 0);
        said(x, "15", 6);

        x = withDigits(1);
        said(x, "15,16", 2);
        reading(x, 5, 0, 5);
        said(x, "15", 6);
        waits(x, 0);
        said(x, "12,14", 2);
        said(x, "15/1,16/2", 2);
        waits(x, 2);
        said(x, "16", 6);
        said(x, "13,14", 2);
        said(x, "16", 5);
        due("STOPPED", x.about(4), 1);

        x = new VoiceForm();
        x.choice(20, true, 30, 31, NONE, NONE, NONE, NONE);
        said(x, "30,31", 2);
        due("told(8) of a CHOICE", x.told(8), 0);
        said(x, "16", 3);
        waits(x, 1);
        said(x, "15", 4);
        due("VALUE", x.field(0, 7), 1);
        due("HEARD BACK", x.field(0, 5), 1);
    }

    private static void readBack() {
        part = "8 say: read back";
        VoiceForm x = new VoiceForm();
        x.digits(20, 1, false, true);
        x.digits(21, 2, true, true);
        x.choice(22, true, 30, 31, NONE, NONE, NONE, NONE);
        said(x, "5", 3);
        waits(x, 1);
        due("VALUE", x.field(0, 7), NONE);
        due("LAST", x.about(1), NONE);
        atHand(x, 0);
        said(x, "", 0);
        said(x, "40", 1);
        waits(x, 1);
        said(x, "16", 5);
        waits(x, 0);
        due("VALUE", x.field(0, 7), NONE);
        said(x, "15", 6);
        said(x, "5", 3);
        said(x, "6", 3);
        said(x, "15", 4);
        due("VALUE", x.field(0, 7), 6);
        due("HEARD BACK", x.field(0, 5), 1);
        said(x, "1 8", 4);
        due("CHECK is kept at once", x.field(1, 7), 18);
        due("HEARD BACK", x.field(1, 5), 0);
        said(x, "30", 3);
        said(x, "13", 5);
        waits(x, 0);
        said(x, "15", 6);
        said(x, "30", 3);
        said(x, "15,16/1", 2);
        waits(x, 2);
        said(x, "15", 6);
        due("what WAITED is gone", x.field(2, 4), 0);
        said(x, "30", 3);
        said(x, "11", 5);
        atHand(x, 1);
        waits(x, 0);
        said(x, "17 22", 5);
        said(x, "31", 3);
        said(x, "15", 4);
        due("VALUE", x.field(2, 7), 1);
        due("HEARD BACK", x.field(2, 5), 1);
        due("LAST", x.about(1), 2);
    }

    private static void kept() {
        part = "8 say: kept";
        VoiceForm x = withDigits(1, 1);
        said(x, "5", 4);
        due("hearBack()", x.hearBack(), 1);
        said(x, "11", 5);
        said(x, "5", 4);
        due("kept once more, not HEARD BACK", x.field(0, 5), 0);
        due("LAST", x.about(1), 0);
        atHand(x, 1);

        part = "8 say: kept, the one at hand isn't asked for any more";
        x = new VoiceForm();
        x.choice(20, false, 30, 31, NONE, NONE, NONE, NONE);
        x.digits(21, 1, false, false);
        x.digits(22, 1, false, false);
        due("needs", x.needs(1, 0, 0), true);
        said(x, "30", 4);
        atHand(x, 1);
        said(x, "16 30", 4);
        atHand(x, 1);
        said(x, "16 31", 4);
        reading(x, 8, 1, 5);
        due("fallen", x.told(7), 0);
        atHand(x, 2);
        said(x, "16 30", 4);
        atHand(x, 2);
        said(x, "11", 5);
        atHand(x, 1);
        said(x, "4", 4);
        atHand(x, 2);
        said(x, "17 20", 5);
        said(x, "31", 4);
        due("fallen", x.told(7), 1);
        due("LAST", x.about(1), 0);
        atHand(x, 2);
    }

    private static void theNext() {
        part = "8 say: THE NEXT";
        VoiceForm x = withDigits(1, 1, 1, 1);
        said(x, "17 22", 5);
        said(x, "7", 4);
        atHand(x, 3);
        said(x, "7", 4);
        atHand(x, 0);
        said(x, "12", 5);
        atHand(x, 1);
        said(x, "1", 4);
        atHand(x, NONE);
        due("open", x.about(3), 1);
        said(x, "1", 1);
        said(x, "12", 6);
    }

    private static void backAndThePile() {
        part = "8 say: BACK";
        VoiceForm x = withDigits(1, 1, 1);
        said(x, "11", 6);
        said(x, "1", 4);
        said(x, "2", 4);
        said(x, "3", 4);
        atHand(x, NONE);
        for (int f = 2; f >= 0; f--) {
            said(x, "11", 5);
            atHand(x, f);
        }
        said(x, "11", 6);
        atHand(x, 0);
        said(x, "17 22", 5);
        said(x, "17 22", 5);
        said(x, "11", 5);
        atHand(x, 0);
        said(x, "11", 6);

        part = "8 say: the pile of 20";
        x = withDigits(1, 1, 1);
        said(x, "17 21", 5);
        for (int i = 0; i < 10; i++) {
            said(x, "17 22", 5);
            said(x, "17 21", 5);
        }
        for (int i = 0; i < 10; i++) {
            said(x, "11", 5);
            atHand(x, 2);
            said(x, "11", 5);
            atHand(x, 1);
        }
        said(x, "11", 6);
        atHand(x, 1);

        part = "8 say: BACK over what isn't asked for";
        x = chain();
        said(x, "30", 4);
        said(x, "30", 4);
        said(x, "17 20", 5);
        said(x, "31", 4);
        atHand(x, NONE);
        said(x, "11", 5);
        atHand(x, 0);
        said(x, "11", 5);
        atHand(x, 0);
        said(x, "11", 6);
        said(x, "11", 6);

        part = "8 say: BACK over nineteen that aren't asked for";
        x = new VoiceForm();
        x.choice(20, false, 30, 31, NONE, NONE, NONE, NONE);
        x.digits(21, 1, false, false);
        x.digits(22, 1, false, false);
        due("needs", x.needs(1, 0, 0), true);
        due("needs", x.needs(2, 0, 0), true);
        said(x, "30", 4);
        for (int i = 0; i < 9; i++) {
            said(x, "17 22", 5);
            said(x, "17 21", 5);
        }
        said(x, "16 31", 4);
        atHand(x, NONE);
        said(x, "11", 5);
        atHand(x, 0);
        said(x, "11", 6);
    }

    private static void skip() {
        part = "8 say: SKIP";
        VoiceForm x = withDigits(1, 1);
        said(x, "12", 5);
        due("SKIPPED", x.field(0, 6), 1);
        atHand(x, 1);
        said(x, "12", 5);
        atHand(x, NONE);
        said(x, "12", 6);
        said(x, "11", 5);
        atHand(x, 1);
        due("SKIPPED", x.field(1, 6), 1);
        said(x, "17 20", 5);
        due("SKIPPED", x.field(0, 6), 0);
        due("open", x.about(3), 2);
    }

    private static void go() {
        part = "8 say: GO";
        VoiceForm x = chain();
        said(x, "17 23", 6);
        reading(x, 7, 3, 5);
        atHand(x, 0);
        said(x, "12", 5);
        atHand(x, NONE);
        said(x, "17 20", 5);
        atHand(x, 0);
        said(x, "17 40 40 20", 5);
        reading(x, 7, 0, 65);
        atHand(x, 0);
        said(x, "11", 5);
        atHand(x, 0);
        said(x, "11", 6);
    }

    private static void mend() {
        part = "8 say: MEND";
        VoiceForm x = withDigits(2, 2, 1);
        said(x, "16 1 2", 4);
        reading(x, 0, 12, 30);
        said(x, "16/1 16/2 3 4 5", 2);
        // The cheaper NO leads, the other one is NOISE like one of the three digits.
        reading(x, 8, 34, 66);
        other(x, 8, 35, 66);
        due("told(8) of MENDS", x.told(8), 0);
        said(x, "16/1 16/2 10 4", 4);
        reading(x, 8, 44, 36);
        due("VALUE", x.field(0, 7), 44);
        atHand(x, 1);
        x.costs(99, 5, 10);
        said(x, "16 1 2,3", 2);
        reading(x, 8, 12, 5);
        other(x, 8, 13, 5);
        due("told(8) of a MEND", x.told(8), 0);
        said(x, "16", 4);
        due("VALUE", x.field(0, 7), 13);

        part = "8 say: MEND of one that is read back";
        x = new VoiceForm();
        x.choice(20, true, 30, 31, NONE, NONE, NONE, NONE);
        x.digits(21, 1, false, false);
        said(x, "30", 3);
        said(x, "15", 4);
        said(x, "16 31", 3);
        waits(x, 1);
        atHand(x, 1);
        due("VALUE", x.field(0, 7), 0);
        said(x, "15", 4);
        due("VALUE", x.field(0, 7), 1);
        due("HEARD BACK", x.field(0, 5), 1);
        atHand(x, 1);
        said(x, "17 20", 5);
        said(x, "16 30", 3);
        said(x, "15", 4);
        atHand(x, 1);
    }

    private static void stopAndGoOn() {
        part = "9 goOn";
        VoiceForm x = new VoiceForm();
        x.digits(20, 1, false, true);
        due("goOn()", x.goOn(), false);
        said(x, "4", 3);
        said(x, "14", 5);
        waits(x, 0);
        due("STOPPED", x.about(4), 1);
        said(x, "1", 1);
        reading(x, NONE, NONE, NONE);
        said(x, "11", 1);
        said(x, "", 1);
        due("PLACES", x.about(8), 0);
        due("SAYS", x.about(5), 3);
        due("goOn()", x.goOn(), true);
        due("goOn()", x.goOn(), false);
        due("STOPPED", x.about(4), 0);
        said(x, "1", 3);
        due("SAYS", x.about(5), 0);
    }

    private static void told() {
        part = "10 told";
        VoiceForm x = withDigits(3);
        for (int what = 0; what <= 8; what++) {
            due("told(" + what + ")", x.told(what), NONE);
        }
        said(x, "1/1,7/2 2 3/4,0/3", 2);
        int[] want = {2, 0, 120, 4, 0, 123, 5, 0, 4};
        for (int what = 0; what <= 8; what++) {
            due("told(" + what + ")", x.told(what), want[what]);
        }
        due("told(-1)", x.told(NONE), NONE);
        due("told(9)", x.told(9), NONE);
        due("told low", x.told(LOW), NONE);
        due("told high", x.told(HIGH), NONE);
        said(x, "50", 1);
        int[] without = {1, NONE, NONE, NONE, NONE, NONE, NONE, 0, 0};
        for (int what = 0; what <= 8; what++) {
            due("told(" + what + ")", x.told(what), without[what]);
        }
        said(x, "", 0);
        due("told(0)", x.told(0), 0);
        due("told(1)", x.told(1), NONE);
        due("told(7)", x.told(7), 0);
        said(x, "1 2 3,4/10", 4);
        other(x, 0, 124, 10);
        due("told(8) of 4", x.told(8), 0);
        x = withDigits(1);
        said(x, "1,11", 2);
        due("told(8) of an ANSWER and an ORDER", x.told(8), 0);
        x.costs(30, 0, 10);
        said(x, "1/2,11", 2);
        reading(x, 1, 0, 0);
        other(x, 0, 1, 2);
        due("told(8) of an ORDER and an ANSWER", x.told(8), 0);
        x = withDigits(8);
        said(x, "0,9/1 1 2 3 4 5 6 7", 2);
        due("first digit", x.told(8), 1);
        said(x, "0 1 2 3 4 5 6 7,8/9", 2);
        due("last digit", x.told(8), 128);
        said(x, "0 1 2 3 4 5 10,5/9 5,6", 2);
        due("two digits by DOUBLE", x.told(8), 192);
    }

    private static void about() {
        part = "11 about";
        VoiceForm x = withDigits(1, 1);
        for (int i = 1; i <= 12; i++) {
            said(x, i % 2 == 0 ? "" : "50", i % 2 == 0 ? 0 : 1);
            due("SAYS", x.about(5), Math.min(i, 9));
        }
        said(x, "11", 6);
        due("SAYS", x.about(5), 0);
        said(x, "1", 4);
        int[] want = {1, 0, 0, 1, 0, 0, 2, 1, 0};
        for (int what = 0; what <= 8; what++) {
            due("about(" + what + ")", x.about(what), want[what]);
        }
        for (int what : new int[] {NONE, 9, LOW, HIGH}) {
            due("about(" + what + ")", x.about(what), NONE);
        }
        said(x, "1", 4);
        due("about(0)", x.about(0), NONE);
        due("about(1)", x.about(1), 1);
        due("about(3)", x.about(3), 0);
        due("about(7)", x.about(7), 2);
    }

    private static void field() {
        part = "12 field";
        VoiceForm x = new VoiceForm();
        x.digits(25, 3, true, false);
        x.choice(26, false, 30, 31, 32, NONE, NONE, NONE);
        int[] ofDigits = {25, 3, 0, 1, 0, 0, 0, NONE};
        int[] ofChoice = {26, 0, 3, 1, 0, 0, 0, NONE};
        for (int what = 0; what <= 7; what++) {
            due("field(0, " + what + ")", x.field(0, what), ofDigits[what]);
            due("field(1, " + what + ")", x.field(1, what), ofChoice[what]);
            due("no such field", x.field(2, what), NONE);
            due("no such field", x.field(NONE, what), NONE);
            due("no such field", x.field(LOW, what), NONE);
            due("no such field", x.field(HIGH, what), NONE);
        }
        for (int what : new int[] {NONE, 8, LOW, HIGH}) {
            due("field(0, " + what + ")", x.field(0, what), NONE);
        }
        said(x, "10 0 0", 4);
        due("VALUE 000", x.field(0, 7), 0);
        due("has a VALUE", x.field(0, 4), 1);
        said(x, "32", 4);
        due("VALUE", x.field(1, 7), 2);
        due("hearBack()", x.hearBack(), 2);
        due("HEARD BACK", x.field(1, 5), 1);
    }

    private static void hearBack() {
        part = "13 hearBack";
        VoiceForm x = withDigits(1, 1, 1);
        due("hearBack()", x.hearBack(), 0);
        said(x, "1", 4);
        said(x, "2", 4);
        due("hearBack()", x.hearBack(), 2);
        due("hearBack()", x.hearBack(), 0);
        due("without a VALUE", x.field(2, 5), 0);
        due("unheard", x.about(7), 0);
        said(x, "3", 4);
        due("of a later VALUE", x.field(2, 5), 0);
        due("hearBack()", x.hearBack(), 1);
    }

    private static void send() {
        part = "14 send";
        VoiceForm x = new VoiceForm();
        x.choice(20, false, 30, 31, NONE, NONE, NONE, NONE);
        x.digits(21, 1, false, false);
        x.digits(22, 1, false, false);
        due("needs", x.needs(1, 0, 0), true);
        due("empty", x.send(), false);
        said(x, "31", 4);
        said(x, "12", 5);
        due("hearBack()", x.hearBack(), 1);
        due("SKIPPED, without a VALUE", x.send(), false);
        said(x, "17 22", 5);
        said(x, "8", 4);
        due("not HEARD BACK", x.send(), false);
        due("hearBack()", x.hearBack(), 1);
        due("send()", x.send(), true);
        due("sent", x.send(), false);
        said(x, "13", 5);
        due("sent, nothing kept", x.send(), false);
        said(x, "16 8", 4);
        due("kept since, not HEARD BACK", x.send(), false);
        due("hearBack()", x.hearBack(), 1);
        due("kept since", x.send(), true);
        said(x, "17 20", 5);
        said(x, "30", 4);
        due("hearBack()", x.hearBack(), 1);
        due("a FIELD more is ASKED FOR", x.send(), false);
        VoiceForm y = new VoiceForm();
        due("no FIELDS", y.send(), true);
        due("no FIELDS, sent", y.send(), false);
    }
}

/**
 * One test for each sentence of the document's Terms that names an edge: calls up to it, at it and past it, and what
 * is answered after it. The sentence is told with each answer that is not as due.
 */
public final class TermEdges {
    private static final int NONE = -1;
    private static final int LOW = Integer.MIN_VALUE;
    private static final int HIGH = Integer.MAX_VALUE;

    private static int wrong = 0;
    private static String sentence = "";

    public static void main(String[] args) {
        fieldsAndWords();
        needsAndCareful();
        whatIsHeard();
        readings();
        meanings();
        atHandAndNext();
        whatSayTells();
        whatWaits();
        keptAndBack();
        otherOrders();
        System.out.println(wrong == 0 ? "all answers are as due" : wrong + " answers are not as due");
        if (wrong != 0) {
            System.exit(1);
        }
    }

    private static void fieldsAndWords() {
        words();
        wordsOfNothing();
        wordsOfOrders();
        fields();
        names();
        lengths();
        choices();
        valuesOfDigits();
        valuesOfChoices();
        checkDoubles();
        checkModuloTen();
        checkOfOneDigit();
    }

    private static void needsAndCareful() {
        askedFor();
        falls();
        fallsAlone();
        careful();
        carefulWithCheck();
    }

    private static void whatIsHeard() {
        placesHeard();
        wordsOfAPlace();
        costsOfWords();
        noiseOrderNear();
    }

    private static void readings() {
        noneOfAPlace();
        asManyAsItHas();
        doubles();
        checkWhereItHasThat();
        oneOfItsWords();
        orderMore();
        goAndAName();
        mendOnlyIfThereIsOne();
    }

    private static void meanings() {
        sorts();
        likeOnesLowestSort();
        likeOnesLeastValue();
        otherMeanings();
    }

    private static void atHandAndNext() {
        atFirst();
        nextBehind();
        nextFirstOfAll();
        nextTheEnd();
        lastField();
    }

    private static void whatSayTells() {
        noneIsLeft();
        nothingWasHeard();
        waitsStays();
        lessThanNear();
        lessThanMostNear();
        yesNoWhileNothingWaits();
    }

    private static void whatWaits() {
        firstAndSecond();
        yesAndNoThemselves();
        whichAnythingElse();
        yesKeepsNoLeaves();
        waitedIsGone();
    }

    private static void keptAndBack() {
        keptNotHeardBack();
        keptWhatFalls();
        keptAtHand();
        keptNotAskedForAnyMore();
        anotherFieldComes();
        pileOfTwenty();
        backOverThoseNotAskedFor();
        backIfThereIsNone();
    }

    private static void otherOrders() {
        skipAtTheEnd();
        left();
        stop();
        goNotAskedFor();
    }

    private static void due(String call, int got, int want) {
        if (got != want) {
            wrong++;
            System.out.println("\"" + sentence + "\": " + call + " answered " + got + ", due is " + want);
        }
    }

    private static void due(String call, boolean got, boolean want) {
        due(call, got ? 1 : 0, want ? 1 : 0);
    }

    private static void due(String call, String got, String want) {
        if (!got.equals(want)) {
            wrong++;
            System.out.println("\"" + sentence + "\": " + call + " showed " + got + ", due is " + want);
        }
    }

    /** Hears a row of PLACES: "1 7/4,8 -" is 1; 7 at 4 or 8; a PLACE without words. A word without a cost costs 0. */
    private static void hear(VoiceForm x, String row) {
        for (String place : row.isEmpty() ? new String[0] : row.split(" ")) {
            x.place();
            for (String word : place.equals("-") ? new String[0] : place.split(",")) {
                String[] parts = word.split("/");
                x.word(Integer.parseInt(parts[0]), parts.length > 1 ? Integer.parseInt(parts[1]) : 0);
            }
        }
    }

    private static void said(VoiceForm x, String row, int want) {
        hear(x, row);
        due("say of '" + row + "'", x.say(), want);
    }

    private static void reading(VoiceForm x, int sort, int value, int cost) {
        due("told(1)", x.told(1), sort);
        due("told(2)", x.told(2), value);
        due("told(3)", x.told(3), cost);
    }

    private static void other(VoiceForm x, int sort, int value, int cost) {
        due("told(4)", x.told(4), sort);
        due("told(5)", x.told(5), value);
        due("told(6)", x.told(6), cost);
    }

    private static void atHand(VoiceForm x, int want) {
        due("about(0)", x.about(0), want);
    }

    private static void waits(VoiceForm x, int want) {
        due("about(2)", x.about(2), want);
    }

    private static void value(VoiceForm x, int f, int want) {
        due("field(" + f + ", 7)", x.field(f, 7), want);
        due("field(" + f + ", 4)", x.field(f, 4), want == NONE ? 0 : 1);
    }

    /** All that can be looked at of the talk and its fields. */
    private static String look(VoiceForm x) {
        StringBuilder all = new StringBuilder();
        for (int what = 0; what <= 8; what++) {
            // How many SAYS told 0 or 1 is no part of where the talk stands.
            all.append(what == 5 ? 0 : x.about(what)).append(' ');
        }
        for (int f = 0; f < x.about(6); f++) {
            all.append("| ");
            for (int what = 0; what <= 7; what++) {
                all.append(x.field(f, what)).append(' ');
            }
        }
        return all.toString();
    }

    private static VoiceForm withDigits(int... lengths) {
        VoiceForm x = new VoiceForm();
        for (int i = 0; i < lengths.length; i++) {
            due("digits", x.digits(20 + i, lengths[i], false, false), i);
        }
        return x;
    }

    /** CHOICES of 50 and 51, as many as wanted, each but the first needing that the one ahead of it is 50. */
    private static VoiceForm chain(int count) {
        VoiceForm x = new VoiceForm();
        for (int f = 0; f < count; f++) {
            due("choice", x.choice(20 + f, false, 50, 51, NONE, NONE, NONE, NONE), f);
            due("needs", x.needs(f, f - 1, 0), f > 0);
        }
        return x;
    }

    private static void words() {
        sentence = "WORDS 0 .. 59";
        VoiceForm x = withDigits(1);
        due("place()", x.place(), 1);
        due("word(-1, 0)", x.word(-1, 0), NONE);
        due("word(low, 0)", x.word(LOW, 0), NONE);
        due("word(60, 0)", x.word(60, 0), NONE);
        due("word(high, 0)", x.word(HIGH, 0), NONE);
        due("word(59, 0)", x.word(59, 0), 1);
        due("word(0, 3)", x.word(0, 3), 2);
        due("say()", x.say(), 4);
        reading(x, 0, 0, 3);
        other(x, NONE, NONE, NONE);
        VoiceForm y = new VoiceForm();
        due("choice", y.choice(20, false, 59, 58, NONE, NONE, NONE, NONE), 0);
        said(y, "59", 4);
        value(y, 0, 0);
    }

    private static void wordsOfNothing() {
        sentence = "18, 19 nothing";
        VoiceForm x = withDigits(1, 1);
        said(x, "18", 1);
        said(x, "19", 1);
        said(x, "18,19", 1);
        said(x, "17 18", 1);
        said(x, "17 19", 1);
        atHand(x, 0);
        said(x, "18 5 19", 4);
        reading(x, 0, 5, 60);
        said(x, "17 20", 5);
        reading(x, 7, 0, 5);
    }

    private static void wordsOfOrders() {
        sentence = "0 .. 9 digits, 10 DOUBLE, 11 BACK, 12 SKIP, 13 LEFT, 14 STOP, 15 YES, 16 NO, 17 GO";
        for (int w = 0; w <= 9; w++) {
            VoiceForm x = withDigits(1);
            said(x, String.valueOf(w), 4);
            value(x, 0, w);
        }
        int[] tells = {1, 6, 5, 5, 5, 6, 6, 1};
        for (int w = 10; w <= 17; w++) {
            VoiceForm x = withDigits(1);
            said(x, String.valueOf(w), tells[w - 10]);
            due("sort of " + w, x.told(1), tells[w - 10] == 1 ? NONE : w - 10);
            value(x, 0, NONE);
        }
    }

    private static void fields() {
        sentence = "FIELDS 0 .. 11";
        VoiceForm x = new VoiceForm();
        for (int f = 0; f < 12; f++) {
            due("FIELDS", x.about(6), f);
            due("field behind the last", x.field(f, 0), NONE);
            due("digits", x.digits(20 + f, 1, false, false), f);
            due("NAME", x.field(f, 0), 20 + f);
        }
        String full = look(x);
        due("a thirteenth of DIGITS", x.digits(32, 1, false, false), NONE);
        due("a thirteenth of a CHOICE", x.choice(32, false, 50, NONE, NONE, NONE, NONE, NONE), NONE);
        due("what stands", look(x), full);
        due("field(12, 0)", x.field(12, 0), NONE);
        due("needs(12, 0, 0)", x.needs(12, 0, 0), false);
        said(x, "17 32", 1);
        said(x, "17 31", 5);
        atHand(x, 11);
        said(x, "7", 4);
        value(x, 11, 7);
        due("LAST", x.about(1), 11);
    }

    private static void names() {
        sentence = "a NAME (a WORD 20 .. 59 that no other one has as its NAME)";
        VoiceForm x = new VoiceForm();
        for (int name : new int[] {LOW, -1, 0, 19, 60, HIGH}) {
            due("digits", x.digits(name, 1, false, false), NONE);
            due("choice", x.choice(name, false, 50, NONE, NONE, NONE, NONE, NONE), NONE);
        }
        due("FIELDS", x.about(6), 0);
        atHand(x, NONE);
        due("digits", x.digits(20, 1, false, false), 0);
        due("choice", x.choice(59, false, 50, 59, 20, NONE, NONE, NONE), 1);
        String stands = look(x);
        due("digits of 20 again", x.digits(20, 2, true, true), NONE);
        due("digits of 59 again", x.digits(59, 2, true, true), NONE);
        due("choice of 20 again", x.choice(20, true, 51, NONE, NONE, NONE, NONE, NONE), NONE);
        due("choice of 59 again", x.choice(59, true, 51, NONE, NONE, NONE, NONE, NONE), NONE);
        due("what stands", look(x), stands);
        due("a free one", x.digits(50, 1, false, false), 2);
        said(x, "17 59", 5);
        atHand(x, 1);
        said(x, "59", 4);
        value(x, 1, 1);
        said(x, "17 20", 5);
        atHand(x, 0);
        said(x, "3", 4);
        value(x, 0, 3);
    }

    private static void lengths() {
        sentence = "of DIGITS (1 .. 8 of them; with or without CHECK)";
        VoiceForm x = new VoiceForm();
        for (int length : new int[] {LOW, -1, 0, 9, HIGH}) {
            due("digits", x.digits(20, length, false, false), NONE);
            due("digits", x.digits(20, length, true, false), NONE);
        }
        due("FIELDS", x.about(6), 0);
        due("the name is free", x.digits(20, 1, false, false), 0);
        due("digits", x.digits(21, 8, false, false), 1);
        due("DIGITS", x.field(0, 1), 1);
        due("DIGITS", x.field(1, 1), 8);
        said(x, "4", 4);
        value(x, 0, 4);
        said(x, "1 2 3 4 5 6 7", 1);
        said(x, "1 2 3 4 5 6 7 8", 4);
        value(x, 1, 12345678);
    }

    private static void choices() {
        sentence = "of a CHOICE (1 .. 6 different WORDS 20 .. 59)";
        VoiceForm x = new VoiceForm();
        due("none", x.choice(20, false, NONE, NONE, NONE, NONE, NONE, NONE), NONE);
        int[] bad = {LOW, -2, 0, 19, 60, HIGH};
        for (int w : bad) {
            due("first " + w, x.choice(20, false, w, NONE, NONE, NONE, NONE, NONE), NONE);
            due("sixth " + w, x.choice(20, false, 50, 51, 52, 53, 54, w), NONE);
        }
        due("alike, one and two", x.choice(20, false, 50, 50, NONE, NONE, NONE, NONE), NONE);
        due("alike, one and six", x.choice(20, false, 50, 51, 52, 53, 54, 50), NONE);
        due("alike, five and six", x.choice(20, false, 50, 51, 52, 53, 54, 54), NONE);
        due("FIELDS", x.about(6), 0);
        atHand(x, NONE);
        due("one", x.choice(20, false, 20, NONE, NONE, NONE, NONE, NONE), 0);
        due("six", x.choice(21, false, 59, 20, 51, 52, 53, 54), 1);
        due("WORDS", x.field(0, 2), 1);
        due("WORDS", x.field(1, 2), 6);
        said(x, "59", 1);
        said(x, "20", 4);
        value(x, 0, 0);
        said(x, "20", 4);
        value(x, 1, 1);
    }

    private static void valuesOfDigits() {
        sentence = "A VALUE: of DIGITS the row of digits";
        VoiceForm x = withDigits(8, 8, 3);
        said(x, "0 0 0 0 0 0 0 0", 4);
        value(x, 0, 0);
        said(x, "9 9 9 9 9 9 9 9", 4);
        reading(x, 0, 99999999, 0);
        value(x, 1, 99999999);
        said(x, "0 0 7", 4);
        value(x, 2, 7);
        said(x, "16 7 0 0", 4);
        reading(x, 8, 700, 5);
        value(x, 2, 700);
        due("unheard", x.about(7), 3);
    }

    private static void valuesOfChoices() {
        sentence = "of a CHOICE the place of its WORD (from 0)";
        for (int i = 0; i < 6; i++) {
            VoiceForm x = new VoiceForm();
            due("choice", x.choice(20, false, 55, 54, 53, 52, 51, 50), 0);
            due("choice", x.choice(21, false, 50, NONE, 49, 48, 47, 46), 1);
            said(x, String.valueOf(55 - i), 4);
            reading(x, 0, i, 0);
            value(x, 0, i);
            said(x, "49", 1);
            said(x, "50", 4);
            value(x, 1, 0);
        }
    }

    /** Whether a field of CHECK takes the row. */
    private static boolean holds(String row) {
        VoiceForm x = new VoiceForm();
        String[] digits = row.split(" ");
        due("digits", x.digits(20, digits.length, true, false), 0);
        hear(x, row);
        int told = x.say();
        due("say of '" + row + "' and its VALUE", told, x.field(0, 4) == 1 ? 4 : 1);
        return told == 4;
    }

    private static void checkDoubles() {
        sentence = "each second one (the last but one first) is doubled, less 9 if that is above 9";
        int[] doubled = {0, 2, 4, 6, 8, 1, 3, 5, 7, 9};
        for (int digit = 0; digit <= 9; digit++) {
            for (int end = 0; end <= 9; end++) {
                boolean want = (doubled[digit] + end) % 10 == 0;
                due("CHECK of " + digit + " " + end, holds(digit + " " + end), want);
                due("CHECK of 0 " + digit + " " + end, holds("0 " + digit + " " + end), want);
                due("CHECK of " + digit + " 0 " + end, holds(digit + " 0 " + end), (digit + end) % 10 == 0);
                due("CHECK of " + digit + " 0 0 " + end, holds(digit + " 0 0 " + end), want);
            }
        }
        due("CHECK of eight", holds("5 0 0 0 0 0 0 9"), true);
        due("CHECK of eight", holds("0 5 0 0 0 0 0 5"), true);
        due("CHECK of eight", holds("5 0 0 0 0 0 0 5"), false);
        due("CHECK of eight", holds("0 5 0 0 0 0 0 9"), false);
    }

    private static void checkModuloTen() {
        sentence = "all together are 0 modulo 10";
        due("CHECK of 0", holds("0 0 0"), true);
        due("CHECK of 9", holds("0 4 1"), false);
        due("CHECK of 10", holds("0 4 2"), true);
        due("CHECK of 11", holds("0 4 3"), false);
        due("CHECK of 19", holds("9 9 1"), false);
        due("CHECK of 20", holds("9 9 2"), true);
        due("CHECK of 21", holds("9 9 3"), false);
        due("CHECK of 70", holds("9 9 9 9 9 9 9 7"), true);
        due("CHECK of 72, the most", holds("9 9 9 9 9 9 9 9"), false);
    }

    private static void checkOfOneDigit() {
        sentence = "CHECK holds: from the last digit back (of one digit)";
        for (int digit = 0; digit <= 9; digit++) {
            due("CHECK of " + digit, holds(String.valueOf(digit)), digit == 0);
        }
    }

    private static void askedFor() {
        sentence = "A FIELD is ASKED FOR if it needs nothing, or what it needs is ASKED FOR, has a VALUE, and that one";
        VoiceForm x = chain(3);
        due("needs nothing", x.field(0, 3), 1);
        due("without a VALUE", x.field(1, 3), 0);
        due("isn't ASKED FOR", x.field(2, 3), 0);
        due("FIELDS ASKED FOR", x.about(3), 1);
        said(x, "51", 4);
        due("another VALUE", x.field(1, 3), 0);
        atHand(x, NONE);
        due("FIELDS ASKED FOR", x.about(3), 0);
        said(x, "16 50", 4);
        due("that VALUE", x.field(1, 3), 1);
        due("without a VALUE", x.field(2, 3), 0);
        due("FIELDS ASKED FOR", x.about(3), 1);
        said(x, "17 21", 5);
        said(x, "50", 4);
        due("that VALUE", x.field(2, 3), 1);
        atHand(x, 2);
    }

    private static void falls() {
        sentence = "A VALUE of a FIELD that isn't ASKED FOR any more FALLS (it has none then; at once, FIELD by FIELD)";
        VoiceForm x = chain(12);
        for (int f = 0; f < 12; f++) {
            atHand(x, f);
            said(x, "50", 4);
        }
        due("hearBack()", x.hearBack(), 12);
        said(x, "17 20", 5);
        said(x, "50", 4);
        due("told(7) of the same VALUE", x.told(7), 0);
        due("with a VALUE, not HEARD BACK", x.about(7), 1);
        said(x, "17 20", 5);
        said(x, "51", 4);
        due("told(7)", x.told(7), 11);
        due("LAST", x.about(1), 0);
        atHand(x, NONE);
        value(x, 0, 1);
        for (int f = 1; f < 12; f++) {
            due("ASKED FOR", x.field(f, 3), 0);
            due("HEARD BACK", x.field(f, 5), 0);
            value(x, f, NONE);
        }
        due("with a VALUE, not HEARD BACK", x.about(7), 1);
        said(x, "13", 5);
        due("told(7) of the SAY behind it", x.told(7), 0);
        said(x, "16 50", 4);
        due("told(7)", x.told(7), 0);
        value(x, 1, NONE);
        due("ASKED FOR", x.field(1, 3), 1);
        due("FIELDS ASKED FOR without a VALUE", x.about(3), 1);
    }

    private static void fallsAlone() {
        sentence = "A VALUE of a FIELD that isn't ASKED FOR any more FALLS (and no other)";
        VoiceForm x = new VoiceForm();
        due("choice", x.choice(20, false, 50, 51, 52, NONE, NONE, NONE), 0);
        due("digits", x.digits(21, 1, false, false), 1);
        due("digits", x.digits(22, 1, false, false), 2);
        due("digits", x.digits(23, 1, false, false), 3);
        due("needs", x.needs(1, 0, 2), true);
        due("needs", x.needs(3, 0, 2), true);
        said(x, "52", 4);
        said(x, "1", 4);
        said(x, "2", 4);
        said(x, "3", 4);
        said(x, "17 20", 5);
        said(x, "51", 4);
        due("told(7)", x.told(7), 2);
        value(x, 0, 1);
        value(x, 1, NONE);
        value(x, 2, 2);
        value(x, 3, NONE);
        said(x, "16 52", 4);
        value(x, 1, NONE);
        due("FIELDS ASKED FOR without a VALUE", x.about(3), 2);
    }

    private static void careful() {
        sentence = "CAREFUL FIELDS (told ones): a VALUE is kept only as it is read back and YES is said";
        VoiceForm x = new VoiceForm();
        due("digits", x.digits(20, 1, false, true), 0);
        due("choice", x.choice(21, true, 50, 51, NONE, NONE, NONE, NONE), 1);
        due("digits", x.digits(22, 1, false, false), 2);
        String stands = look(x);
        said(x, "5", 3);
        waits(x, 1);
        value(x, 0, NONE);
        said(x, "16", 5);
        due("what stands", look(x), stands);
        said(x, "5", 3);
        said(x, "15", 4);
        value(x, 0, 5);
        due("HEARD BACK", x.field(0, 5), 1);
        said(x, "51", 3);
        value(x, 1, NONE);
        said(x, "15", 4);
        value(x, 1, 1);
        due("HEARD BACK", x.field(1, 5), 1);
        said(x, "6", 4);
        due("of one that isn't CAREFUL", x.field(2, 5), 0);
    }

    private static void carefulWithCheck() {
        sentence = "but of DIGITS with CHECK that holds it is kept at once";
        VoiceForm x = new VoiceForm();
        due("digits", x.digits(20, 2, true, true), 0);
        said(x, "1 9", 1);
        value(x, 0, NONE);
        waits(x, 0);
        said(x, "1 8", 4);
        waits(x, 0);
        value(x, 0, 18);
        due("HEARD BACK", x.field(0, 5), 0);
        said(x, "15", 6);
        said(x, "16 2 6", 4);
        value(x, 0, 26);
    }

    private static void placesHeard() {
        sentence = "HEARD: a row of up to 8 PLACES";
        VoiceForm x = withDigits(8, 8);
        for (int round = 0; round < 2; round++) {
            for (int i = 1; i <= 8; i++) {
                due("place()", x.place(), i);
                due("PLACES", x.about(8), i);
                due("word", x.word(i, 0), 1);
            }
            due("a ninth", x.place(), NONE);
            due("PLACES", x.about(8), 8);
            due("a WORD of the eighth", x.word(9, 20), 2);
            due("a ninth", x.place(), NONE);
            due("say()", x.say(), 4);
            reading(x, 0, 12345678, 0);
            other(x, 0, 12345679, 20);
            due("PLACES", x.about(8), 0);
        }
    }

    private static void wordsOfAPlace() {
        sentence = "each with up to 4 different WORDS";
        VoiceForm x = withDigits(1, 1, 1);
        for (int p = 1; p <= 2; p++) {
            due("place()", x.place(), p);
            for (int i = 1; i <= 4; i++) {
                due("word", x.word(39 + i, 0), i);
            }
            due("a fifth", x.word(5, 0), NONE);
            due("one that it has", x.word(40, 0), NONE);
        }
        due("say()", x.say(), 1);
        due("place()", x.place(), 1);
        due("word(5, 9)", x.word(5, 9), 1);
        due("it has it", x.word(5, 0), NONE);
        due("it has it", x.word(5, 9), NONE);
        due("a second", x.word(6, 99), 2);
        due("say()", x.say(), 4);
        reading(x, 0, 5, 9);
        other(x, 0, 6, 99);
        said(x, "40,41,42,5", 4);
        value(x, 1, 5);
        said(x, "40,41,42,43,5", 1);
        value(x, 2, NONE);
    }

    private static void costsOfWords() {
        sentence = "at COSTS (0 .. 99)";
        VoiceForm x = withDigits(1, 1);
        due("place()", x.place(), 1);
        for (int cost : new int[] {LOW, -1, 100, HIGH}) {
            due("word(5, " + cost + ")", x.word(5, cost), NONE);
        }
        due("say()", x.say(), 1);
        due("place()", x.place(), 1);
        due("word(5, 100)", x.word(5, 100), NONE);
        due("word(5, 99)", x.word(5, 99), 1);
        due("say()", x.say(), 4);
        reading(x, 0, 5, 99);
        due("place()", x.place(), 1);
        due("word(5, -1)", x.word(5, -1), NONE);
        due("word(5, 0)", x.word(5, 0), 1);
        due("say()", x.say(), 4);
        reading(x, 0, 5, 0);
    }

    /** What a SAY of LEFT with one NOISE costs, and whether 9 more are near. */
    private static void costsStand(VoiceForm x, int noise, int order, int near) {
        said(x, "13 40", 5);
        reading(x, 3, 0, noise + order);
        if (near > 0) {
            said(x, "13,15/" + Math.min(near - 1, 99), 2);
        }
        if (near <= 99) {
            said(x, "13,15/" + near, 5);
        }
    }

    private static void noiseOrderNear() {
        sentence = "NOISE (0 .. 99), ORDER (0 .. 99), NEAR (0 .. 200): at first 30, 5, 10";
        VoiceForm x = new VoiceForm();
        costsStand(x, 30, 5, 10);
        int[][] bad = {{-1, 7, 7}, {100, 7, 7}, {7, -1, 7}, {7, 100, 7}, {7, 7, -1}, {7, 7, 201}, {LOW, 7, 7},
            {7, HIGH, 7}, {7, 7, HIGH}, {7, LOW, 7}, {HIGH, 7, 7}, {7, 7, LOW}};
        for (int[] b : bad) {
            due("costs(" + b[0] + ", " + b[1] + ", " + b[2] + ")", x.costs(b[0], b[1], b[2]), false);
        }
        costsStand(x, 30, 5, 10);
        int[][] good = {{0, 0, 0}, {99, 99, 200}, {0, 99, 1}, {99, 0, 99}, {1, 98, 100}};
        for (int[] g : good) {
            due("costs(" + g[0] + ", " + g[1] + ", " + g[2] + ")", x.costs(g[0], g[1], g[2]), true);
            costsStand(x, g[0], g[1], g[2]);
            due("costs(100, 100, 201)", x.costs(100, 100, 201), false);
            costsStand(x, g[0], g[1], g[2]);
        }
    }

    private static void noneOfAPlace() {
        sentence = "of each PLACE one of its WORDS, or none (at NOISE)";
        VoiceForm x = withDigits(1, 1, 1, 1);
        said(x, "-", 1);
        said(x, "- - - - - - - -", 1);
        said(x, "40 40", 1);
        said(x, "- - - - - - - 5", 4);
        reading(x, 0, 5, 210);
        said(x, "6 - - - - - - -", 4);
        reading(x, 0, 6, 210);
        due("costs", x.costs(99, 0, 0), true);
        said(x, "7/99,40 40,41 - - - - - -", 4);
        reading(x, 0, 7, 792);
        due("costs", x.costs(0, 0, 0), true);
        said(x, "- 8/99 -", 4);
        reading(x, 0, 8, 99);
    }

    private static void asManyAsItHas() {
        sentence = "of DIGITS: digits ... as many as it has";
        VoiceForm x = withDigits(3, 8, 1);
        said(x, "1", 1);
        said(x, "1 2", 1);
        said(x, "1 2 3", 4);
        reading(x, 0, 123, 0);
        said(x, "1 2 3 4 5 6 7", 1);
        said(x, "1 2 3 4 5 6 7 40", 1);
        said(x, "1 2 3 4 5 6 7 8", 4);
        reading(x, 0, 12345678, 0);
        said(x, "1 2/1", 2);
        reading(x, 0, 1, 30);
        other(x, 0, 2, 31);
    }

    private static void doubles() {
        sentence = "or DOUBLE and a digit for two of it";
        VoiceForm x = withDigits(2, 1, 8, 3, 2, 2);
        said(x, "10", 1);
        said(x, "10 40", 1);
        said(x, "5 10", 1);
        said(x, "10 10", 1);
        said(x, "10 0", 4);
        value(x, 0, 0);
        said(x, "10", 1);
        said(x, "10 9", 4);
        reading(x, 0, 9, 30);
        said(x, "10 1 10 2 10 3 10", 1);
        said(x, "10 1 10 2 10 3 4", 1);
        said(x, "10 1 10 2 10 3 10 4", 4);
        reading(x, 0, 11223344, 0);
        said(x, "10 7 10", 1);
        said(x, "10 7 10 8", 2);
        reading(x, 0, 778, 30);
        other(x, 0, 788, 30);
        said(x, "10 7 8", 4);
        value(x, 3, 778);
        said(x, "10 10 6", 4);
        reading(x, 0, 66, 30);
        said(x, "10 40 6", 4);
        reading(x, 0, 66, 30);
    }

    private static void checkWhereItHasThat() {
        sentence = "and CHECK holds where it has that";
        VoiceForm x = new VoiceForm();
        due("digits", x.digits(20, 2, true, false), 0);
        due("digits", x.digits(21, 2, false, false), 1);
        said(x, "1 7,9/1,6/2", 1);
        said(x, "1 7,9/1,6/2,8/3", 4);
        reading(x, 0, 18, 3);
        other(x, NONE, NONE, NONE);
        said(x, "16 1 7,6/1", 2);
        reading(x, 0, 17, 30);
        due("costs", x.costs(99, 5, 10), true);
        said(x, "16 2 6", 4);
        reading(x, 8, 26, 5);
        other(x, 0, 26, 99);
        said(x, "16 2 7", 4);
        reading(x, 0, 27, 99);
        other(x, 6, 0, 203);
        value(x, 0, 26);
        value(x, 1, 27);
    }

    private static void oneOfItsWords() {
        sentence = "of a CHOICE: one of its WORDS";
        VoiceForm x = new VoiceForm();
        due("choice", x.choice(20, false, 50, 51, NONE, 52, 53, NONE), 0);
        due("choice", x.choice(21, false, 50, 52, NONE, NONE, NONE, NONE), 1);
        said(x, "52", 1);
        said(x, "20", 1);
        said(x, "0", 1);
        said(x, "50 51/1", 2);
        reading(x, 0, 0, 30);
        other(x, 0, 1, 31);
        said(x, "51", 4);
        value(x, 0, 1);
        said(x, "51", 1);
        said(x, "52/99", 4);
        reading(x, 0, 1, 99);
    }

    private static void orderMore() {
        sentence = "at ORDER more: BACK; SKIP; LEFT; STOP; YES; NO; GO and a NAME; NO and an ANSWER";
        for (int order : new int[] {0, 1, 99}) {
            for (int w = 11; w <= 16; w++) {
                VoiceForm x = withDigits(1, 1);
                due("costs", x.costs(30, order, 10), true);
                said(x, "5/7", 4);
                reading(x, 0, 5, 7);
                hear(x, w + "/2 -");
                x.say();
                reading(x, w - 10, 0, 32 + order);
            }
            VoiceForm x = withDigits(1, 1);
            due("costs", x.costs(99, order, 0), true);
            said(x, "5", 4);
            said(x, "17/1 20/2", 5);
            reading(x, 7, 0, 3 + order);
            said(x, "12", 5);
            said(x, "16/3 50 6/4", 4);
            reading(x, order < 99 ? 8 : 0, 6, order < 99 ? 106 + order : 202);
        }
    }

    private static void goAndAName() {
        sentence = "GO and a NAME";
        VoiceForm x = new VoiceForm();
        for (int f = 0; f < 12; f++) {
            due("choice", x.choice(30 + f, false, 20, NONE, NONE, NONE, NONE, NONE), f);
        }
        said(x, "17", 1);
        said(x, "30", 1);
        said(x, "30 17", 1);
        said(x, "17 29", 1);
        said(x, "17 42", 1);
        said(x, "17 17", 1);
        said(x, "17,31", 1);
        atHand(x, 0);
        said(x, "17 41", 5);
        reading(x, 7, 11, 5);
        atHand(x, 11);
        said(x, "17 50 30", 5);
        reading(x, 7, 0, 35);
        atHand(x, 0);
        said(x, "17/9 17 35", 5);
        reading(x, 7, 5, 35);
        said(x, "17 36 37/10", 5);
        reading(x, 7, 6, 35);
        other(x, 7, 7, 45);
        atHand(x, 6);
        said(x, "17 20", 4);
        reading(x, 0, 0, 30);
        value(x, 6, 0);
        VoiceForm y = chain(2);
        said(y, "17 0", 1);
        said(y, "17 22", 1);
        said(y, "17 50", 4);
        reading(y, 0, 0, 30);
        said(y, "17 21", 5);
    }

    private static void mendOnlyIfThereIsOne() {
        sentence = "NO and an ANSWER to the LAST FIELD (a MEND; only if there is one)";
        VoiceForm x = withDigits(2, 1);
        due("costs", x.costs(30, 5, 0), true);
        said(x, "16 1 2", 4);
        reading(x, 0, 12, 30);
        other(x, 6, 0, 65);
        said(x, "16 3 4", 4);
        reading(x, 8, 34, 5);
        value(x, 0, 34);
        atHand(x, 1);
        said(x, "5 6 16", 4);
        reading(x, 0, 5, 60);
        value(x, 1, 5);
        value(x, 0, 34);
        said(x, "16 16 7", 4);
        reading(x, 8, 7, 35);
        value(x, 1, 7);
        said(x, "16 -", 6);
        reading(x, 6, 0, 35);
        said(x, "16 10", 6);
        reading(x, 6, 0, 35);
        value(x, 1, 7);
        said(x, "16 3 4", 4);
        reading(x, 8, 3, 35);
        value(x, 0, 34);
    }

    private static void sorts() {
        sentence = "its sort (0 ANSWER, 1 BACK, .. 5 YES in this order, 6 NO, 7 GO, 8 MEND) and its VALUE "
                + "(of GO the FIELD; of 0 .. 6 but ANSWER 0)";
        VoiceForm x = withDigits(1, 1, 1);
        said(x, "9", 4);
        reading(x, 0, 9, 0);
        int[] tells = {5, 5, 5, 5, 6, 6};
        for (int sort = 1; sort <= 6; sort++) {
            x.goOn();
            said(x, String.valueOf(sort + 10), tells[sort - 1]);
            reading(x, sort, 0, 5);
        }
        said(x, "17 22", 5);
        reading(x, 7, 2, 5);
        said(x, "16 8", 4);
        reading(x, 8, 8, 5);
    }

    private static void likeOnesLowestSort() {
        sentence = "THE READING: the MEANING of the least COST; of like ones the lowest sort";
        VoiceForm x = withDigits(1);
        due("costs", x.costs(30, 0, 0), true);
        said(x, "5,16,15,11", 4);
        reading(x, 0, 5, 0);
        other(x, 1, 0, 0);
        for (int w = 15; w >= 12; w--) {
            VoiceForm y = withDigits(1, 1);
            due("costs", y.costs(30, 0, 0), true);
            hear(y, (w + 1) + "," + w + "," + (w - 1) + "/1");
            y.say();
            reading(y, w - 10, 0, 0);
            other(y, w - 9, 0, 0);
        }
        due("costs", x.costs(0, 0, 0), true);
        said(x, "16 17 20 5", 6);
        reading(x, 6, 0, 0);
        other(x, 7, 0, 0);
        said(x, "17 16/1 20 5", 5);
        reading(x, 7, 0, 0);
        other(x, 6, 0, 1);
        said(x, "16 3/1,5/1", 6);
        reading(x, 6, 0, 0);
        other(x, 0, 3, 1);
    }

    private static void likeOnesLeastValue() {
        sentence = "then the least VALUE (of DIGITS as a number)";
        VoiceForm x = withDigits(2, 3, 1, 1);
        due("costs", x.costs(30, 5, 0), true);
        said(x, "1,0 9,8", 4);
        reading(x, 0, 8, 0);
        other(x, 0, 9, 0);
        said(x, "9,0/1 1 1,0/1", 4);
        reading(x, 0, 911, 0);
        other(x, 0, 11, 1);
        said(x, "9,8,7,6", 4);
        reading(x, 0, 6, 0);
        other(x, 0, 7, 0);
        said(x, "17 22,20,21", 5);
        reading(x, 7, 0, 5);
        other(x, 7, 1, 5);
        said(x, "16 4,2,3", 4);
        reading(x, 8, 2, 5);
        other(x, 8, 3, 5);
        VoiceForm y = new VoiceForm();
        due("choice", y.choice(20, false, 53, 52, 51, 50, NONE, NONE), 0);
        due("costs", y.costs(30, 5, 0), true);
        said(y, "50,51,52,53/1", 4);
        reading(y, 0, 1, 0);
        other(y, 0, 2, 0);
    }

    private static void otherMeanings() {
        sentence = "THE OTHER: the same of all other MEANINGS";
        VoiceForm x = withDigits(1, 2, 1, 1);
        said(x, "5 5/1 5/2", 4);
        reading(x, 0, 5, 60);
        other(x, NONE, NONE, NONE);
        said(x, "10 7 7/20 7/30", 4);
        reading(x, 0, 77, 60);
        other(x, NONE, NONE, NONE);
        said(x, "13 13 13", 5);
        reading(x, 3, 0, 65);
        other(x, NONE, NONE, NONE);
        said(x, "5/3,6/50,7/49,8/50", 4);
        reading(x, 0, 5, 3);
        other(x, 0, 7, 49);
        said(x, "6,13/20", 4);
        reading(x, 0, 6, 0);
        other(x, 3, 0, 25);
        VoiceForm y = withDigits(1);
        said(y, "5/9 5/8", 4);
        reading(y, 0, 5, 38);
        other(y, NONE, NONE, NONE);
        said(y, "16/8 16/3 6/7 6/4 6/5", 4);
        reading(y, 8, 6, 102);
        other(y, 6, 0, 128);
    }

    private static void atFirst() {
        sentence = "AT HAND: a FIELD, or none (the END). At first FIELD 0";
        VoiceForm x = new VoiceForm();
        atHand(x, NONE);
        due("digits refused", x.digits(20, 0, false, false), NONE);
        atHand(x, NONE);
        due("digits", x.digits(20, 1, false, false), 0);
        atHand(x, 0);
        due("digits", x.digits(21, 1, false, false), 1);
        atHand(x, 0);
        VoiceForm y = new VoiceForm();
        due("choice", y.choice(20, false, 50, NONE, NONE, NONE, NONE, NONE), 0);
        atHand(y, 0);
        VoiceForm z = new VoiceForm();
        said(z, "5", 1);
        said(z, "12", 6);
        atHand(z, NONE);
    }

    private static void nextBehind() {
        sentence = "THE NEXT behind a FIELD: the first one behind it that is ASKED FOR, without a VALUE, "
                + "and wasn't SKIPPED";
        VoiceForm x = new VoiceForm();
        due("choice", x.choice(20, false, 50, 51, NONE, NONE, NONE, NONE), 0);
        for (int f = 1; f < 6; f++) {
            due("digits", x.digits(20 + f, 1, false, false), f);
        }
        due("needs", x.needs(2, 0, 1), true);
        said(x, "17 21", 5);
        said(x, "12", 5);
        atHand(x, 3);
        said(x, "3", 4);
        atHand(x, 4);
        said(x, "17 20", 5);
        said(x, "50", 4);
        atHand(x, 4);
        said(x, "12", 5);
        atHand(x, 5);
        said(x, "17 20", 5);
        said(x, "51", 4);
        atHand(x, 2);
        said(x, "2", 4);
        atHand(x, 5);
    }

    private static void nextFirstOfAll() {
        sentence = "else the first of all that is so";
        VoiceForm x = new VoiceForm();
        for (int f = 0; f < 12; f++) {
            due("digits", x.digits(20 + f, 1, false, false), f);
        }
        said(x, "12", 5);
        atHand(x, 1);
        said(x, "17 31", 5);
        said(x, "7", 4);
        atHand(x, 1);
        said(x, "17 30", 5);
        said(x, "7", 4);
        atHand(x, 1);
        said(x, "7", 4);
        atHand(x, 2);
        said(x, "17 31", 5);
        said(x, "12", 5);
        atHand(x, 2);
        VoiceForm y = withDigits(1, 1);
        said(y, "17 21", 5);
        said(y, "7", 4);
        atHand(y, 0);
    }

    private static void nextTheEnd() {
        sentence = "else the END";
        VoiceForm x = withDigits(1);
        said(x, "5", 4);
        atHand(x, NONE);
        said(x, "5", 1);
        said(x, "17 20", 5);
        said(x, "12", 5);
        atHand(x, NONE);
        VoiceForm y = withDigits(1, 1);
        said(y, "12", 5);
        said(y, "5", 4);
        atHand(y, NONE);
        due("FIELDS ASKED FOR without a VALUE", y.about(3), 1);
        VoiceForm z = chain(2);
        said(z, "51", 4);
        atHand(z, NONE);
    }

    private static void lastField() {
        sentence = "THE LAST FIELD: that whose VALUE was kept latest (none if it FELL)";
        VoiceForm x = chain(3);
        due("LAST", x.about(1), NONE);
        said(x, "12", 5);
        due("LAST", x.about(1), NONE);
        said(x, "17 20", 5);
        for (int f = 0; f < 3; f++) {
            said(x, "50", 4);
            due("LAST", x.about(1), f);
        }
        said(x, "17 20", 5);
        due("LAST", x.about(1), 2);
        said(x, "51", 4);
        due("told(7)", x.told(7), 2);
        due("LAST", x.about(1), 0);
        said(x, "16 50", 4);
        due("LAST", x.about(1), 0);
        value(x, 0, 0);
    }

    private static void noneIsLeft() {
        sentence = "SAY takes what was HEARD (none is left)";
        VoiceForm x = withDigits(2, 1);
        String[] rows = {"", "-", "1", "1 2,3/1", "11", "1 2", "13", "14", "5"};
        int[] tells = {0, 1, 1, 2, 6, 4, 5, 5, 1};
        for (int i = 0; i < rows.length; i++) {
            said(x, rows[i], tells[i]);
            due("PLACES", x.about(8), 0);
            due("word(5, 0) without a PLACE", x.word(5, 0), NONE);
        }
        due("goOn()", x.goOn(), true);
        due("say()", x.say(), 0);
        atHand(x, 1);
        said(x, "-", 1);
    }

    private static void nothingWasHeard() {
        sentence = "0 nothing was HEARD; 1 no READING";
        VoiceForm x = withDigits(1);
        said(x, "", 0);
        due("place()", x.place(), 1);
        due("say()", x.say(), 1);
        due("word(5, 0)", x.word(5, 0), NONE);
        due("say()", x.say(), 0);
        due("place()", x.place(), 1);
        due("word(60, 0)", x.word(60, 0), NONE);
        due("say()", x.say(), 1);
        said(x, "40", 1);
        reading(x, NONE, NONE, NONE);
        other(x, NONE, NONE, NONE);
        atHand(x, 0);
        said(x, "5", 4);
    }

    private static void waitsStays() {
        sentence = "(what WAITS stays by both)";
        VoiceForm x = new VoiceForm();
        due("digits", x.digits(20, 1, false, true), 0);
        due("digits", x.digits(21, 1, false, false), 1);
        said(x, "5", 3);
        for (int i = 0; i < 12; i++) {
            said(x, i % 2 == 0 ? "" : "40", i % 2);
            waits(x, 1);
        }
        said(x, "15", 4);
        value(x, 0, 5);
        waits(x, 0);
        said(x, "6,7/1", 2);
        for (int i = 0; i < 12; i++) {
            said(x, i % 2 == 0 ? "" : "40", i % 2);
            waits(x, 2);
        }
        said(x, "16", 4);
        value(x, 1, 7);
        waits(x, 0);
    }

    private static void lessThanNear() {
        sentence = "2 THE OTHER costs less than NEAR more: it WAITS for which";
        int[] nears = {0, 1, 10, 98};
        for (int near : nears) {
            VoiceForm x = withDigits(1);
            due("costs", x.costs(30, 5, near), true);
            if (near > 0) {
                said(x, "1,2/" + (near - 1), 2);
                waits(x, 2);
                value(x, 0, NONE);
                atHand(x, 0);
            }
            said(x, "1,2/" + near, 4);
            other(x, 0, 2, near);
            waits(x, 0);
            value(x, 0, 1);
            said(x, "17 20", 5);
            said(x, "1,2/" + (near + 1), 4);
        }
    }

    private static void lessThanMostNear() {
        sentence = "2 THE OTHER costs less than NEAR more (NEAR 0 .. 200)";
        // Of 0 or 1, 0 or 1, 0 or 7 only 000 and 117 hold CHECK.
        VoiceForm x = new VoiceForm();
        due("digits", x.digits(20, 3, true, false), 0);
        due("costs", x.costs(99, 99, 200), true);
        said(x, "0,1/50 0,1/50 0,7/99", 2);
        other(x, 0, 117, 199);
        said(x, "0,1/51 0,1/50 0,7/99", 4);
        other(x, 0, 117, 200);
        said(x, "17 20", 5);
        due("costs", x.costs(99, 99, 199), true);
        said(x, "0,1/50 0,1/50 0,7/99", 4);
        said(x, "17 20", 5);
        said(x, "0,1/49 0,1/50 0,7/99", 2);
    }

    private static void yesNoWhileNothingWaits() {
        sentence = "YES, NO while nothing WAITS: 6";
        VoiceForm x = new VoiceForm();
        due("digits", x.digits(20, 1, false, true), 0);
        due("digits", x.digits(21, 1, false, false), 1);
        String stands = look(x);
        said(x, "15", 6);
        said(x, "16", 6);
        due("what stands", look(x), stands);
        said(x, "5", 3);
        said(x, "15", 4);
        stands = look(x);
        said(x, "15", 6);
        said(x, "16", 6);
        due("what stands", look(x), stands);
        said(x, "16 6", 3);
        said(x, "16", 5);
        said(x, "16", 6);
        said(x, "15", 6);
        due("what stands", look(x), stands);
    }

    private static void firstAndSecond() {
        sentence = "While it WAITS for which: YES is the first MEANING, NO the second one: taken as if there were no "
                + "other one (what comes of it is told: 3 to 6)";
        VoiceForm x = new VoiceForm();
        due("choice", x.choice(20, true, 50, 51, NONE, NONE, NONE, NONE), 0);
        due("digits", x.digits(21, 1, false, false), 1);
        due("digits", x.digits(22, 1, false, false), 2);
        said(x, "51,50/1", 2);
        said(x, "15", 3);
        reading(x, 5, 0, 5);
        waits(x, 1);
        said(x, "15", 4);
        value(x, 0, 1);
        due("HEARD BACK", x.field(0, 5), 1);
        said(x, "3,4", 2);
        said(x, "16", 4);
        reading(x, 6, 0, 5);
        value(x, 1, 4);
        due("HEARD BACK", x.field(1, 5), 0);
        said(x, "16 8,9/1", 2);
        other(x, 8, 9, 6);
        said(x, "16", 4);
        value(x, 1, 9);
        value(x, 2, NONE);
        said(x, "8", 4);
        said(x, "13,14", 2);
        said(x, "15", 5);
        due("STOPPED", x.about(4), 0);
        said(x, "12,14/1", 2);
        said(x, "15", 6);
        said(x, "11,12", 2);
        said(x, "15", 5);
        atHand(x, 2);
        said(x, "17 20,21/1", 2);
        said(x, "16", 5);
        atHand(x, 1);
    }

    private static void yesAndNoThemselves() {
        sentence = "While it WAITS for which: ... YES, NO as while nothing WAITS";
        VoiceForm x = withDigits(1);
        String stands = look(x);
        said(x, "15,16/1", 2);
        said(x, "15", 6);
        due("what stands", look(x), stands);
        said(x, "15,16/1", 2);
        said(x, "16", 6);
        due("what stands", look(x), stands);
        said(x, "16,15/1", 2);
        reading(x, 6, 0, 5);
        said(x, "15", 6);
        due("what stands", look(x), stands);
        said(x, "5,15", 2);
        said(x, "16", 6);
        due("what stands", look(x), stands);
        said(x, "15", 6);
        said(x, "5,16", 2);
        said(x, "15", 4);
        value(x, 0, 5);
    }

    private static void whichAnythingElse() {
        sentence = "While it WAITS for which: ... anything else is taken as always";
        VoiceForm x = withDigits(1, 1, 1);
        said(x, "1,2", 2);
        said(x, "7", 4);
        value(x, 0, 7);
        waits(x, 0);
        said(x, "15", 6);
        said(x, "1,2", 2);
        said(x, "3,4", 2);
        said(x, "15", 4);
        value(x, 1, 3);
        said(x, "1,2", 2);
        said(x, "12", 5);
        atHand(x, NONE);
        said(x, "15", 6);
        value(x, 2, NONE);
        said(x, "17 22", 5);
        said(x, "1,2", 2);
        said(x, "16 9", 4);
        reading(x, 8, 9, 5);
        waits(x, 0);
        value(x, 1, 9);
        value(x, 2, NONE);
        said(x, "15", 6);
    }

    private static void yesKeepsNoLeaves() {
        sentence = "While it WAITS for a VALUE: YES keeps it (4); NO leaves it (5); anything else is taken as always";
        VoiceForm x = new VoiceForm();
        due("digits", x.digits(20, 1, false, true), 0);
        due("choice", x.choice(21, true, 50, 51, NONE, NONE, NONE, NONE), 1);
        said(x, "5", 3);
        said(x, "16", 5);
        waits(x, 0);
        value(x, 0, NONE);
        due("LAST", x.about(1), NONE);
        atHand(x, 0);
        said(x, "15", 6);
        said(x, "5", 3);
        said(x, "6", 3);
        said(x, "15", 4);
        value(x, 0, 6);
        atHand(x, 1);
        said(x, "16 7", 3);
        said(x, "16", 5);
        value(x, 0, 6);
        due("HEARD BACK", x.field(0, 5), 1);
        said(x, "16 7", 3);
        atHand(x, 1);
        said(x, "50", 3);
        said(x, "15", 4);
        value(x, 0, 6);
        value(x, 1, 0);
        said(x, "16 51", 3);
        said(x, "15", 4);
        value(x, 1, 1);
        due("HEARD BACK", x.field(1, 5), 1);
        atHand(x, NONE);
    }

    /** The SAY that tells 2 to 6 while something WAITS. */
    private static void waitedIsGone() {
        sentence = "By each SAY that tells 2 to 6 what WAITED is gone";
        String[] rows = {"1,2", "7", "17 22", "11", "13", "12", "17 23"};
        int[] tells = {2, 3, 5, 6, 5, 5, 6};
        int[] waiting = {2, 1, 0, 0, 0, 0, 0};
        for (String before : new String[] {"5", "5,6"}) {
            for (int i = 0; i < rows.length; i++) {
                VoiceForm x = new VoiceForm();
                due("digits", x.digits(20, 1, false, true), 0);
                due("choice", x.choice(21, true, 50, 51, NONE, NONE, NONE, NONE), 1);
                due("digits", x.digits(22, 1, false, true), 2);
                due("digits", x.digits(23, 1, false, false), 3);
                due("needs", x.needs(3, 1, 0), true);
                said(x, before, before.equals("5") ? 3 : 2);
                said(x, rows[i], tells[i]);
                waits(x, waiting[i]);
                if (waiting[i] == 0) {
                    said(x, "15", 6);
                    due("VALUES", x.about(7), 0);
                    value(x, 0, NONE);
                    value(x, 2, NONE);
                } else {
                    said(x, "16", waiting[i] == 2 ? 3 : 5);
                    waits(x, waiting[i] == 2 ? 1 : 0);
                    value(x, 0, NONE);
                }
            }
        }
        VoiceForm x = new VoiceForm();
        due("digits", x.digits(20, 2, true, false), 0);
        due("digits", x.digits(21, 1, false, true), 1);
        said(x, "1 8", 4);
        said(x, "5", 3);
        said(x, "16 2 6", 4);
        waits(x, 0);
        said(x, "15", 6);
        value(x, 1, NONE);
        value(x, 0, 26);
    }

    private static void keptNotHeardBack() {
        sentence = "KEPT (4): the FIELD has that VALUE, not HEARD BACK unless it was read back";
        VoiceForm x = new VoiceForm();
        due("digits", x.digits(20, 1, false, false), 0);
        due("digits", x.digits(21, 1, false, true), 1);
        said(x, "5", 4);
        due("HEARD BACK", x.field(0, 5), 0);
        due("hearBack()", x.hearBack(), 1);
        said(x, "16 5", 4);
        due("HEARD BACK after the same VALUE", x.field(0, 5), 0);
        said(x, "6", 3);
        due("hearBack()", x.hearBack(), 1);
        due("a VALUE that isn't kept", x.field(1, 5), 0);
        said(x, "15", 4);
        due("HEARD BACK", x.field(1, 5), 1);
        due("hearBack()", x.hearBack(), 0);
    }

    private static void keptWhatFalls() {
        sentence = "what FALLS falls; it is THE LAST FIELD";
        VoiceForm x = chain(3);
        for (int f = 0; f < 3; f++) {
            said(x, "50", 4);
        }
        said(x, "17 20", 5);
        said(x, "50", 4);
        due("told(7) of the same VALUE", x.told(7), 0);
        due("LAST", x.about(1), 0);
        said(x, "16 51", 4);
        due("told(7) of a MEND", x.told(7), 2);
        due("LAST", x.about(1), 0);
        value(x, 1, NONE);
        value(x, 2, NONE);
        VoiceForm y = new VoiceForm();
        due("choice", y.choice(20, true, 50, 51, NONE, NONE, NONE, NONE), 0);
        due("digits", y.digits(21, 1, false, false), 1);
        due("needs", y.needs(1, 0, 1), true);
        said(y, "51", 3);
        due("ASKED FOR ahead of YES", y.field(1, 3), 0);
        said(y, "15", 4);
        due("ASKED FOR behind YES", y.field(1, 3), 1);
        said(y, "5", 4);
        said(y, "17 20", 5);
        said(y, "50", 3);
        due("told(7) ahead of YES", y.told(7), 0);
        value(y, 1, 5);
        due("LAST", y.about(1), 1);
        said(y, "15", 4);
        due("told(7) of YES", y.told(7), 1);
        value(y, 1, NONE);
        due("LAST", y.about(1), 0);
    }

    private static void keptAtHand() {
        sentence = "it is THE LAST FIELD; if it is the one at hand ... THE NEXT comes";
        VoiceForm x = withDigits(1, 1);
        said(x, "5", 4);
        due("LAST", x.about(1), 0);
        atHand(x, 1);
        said(x, "16 6", 4);
        atHand(x, 1);
        said(x, "11", 5);
        atHand(x, 0);
        said(x, "16 7", 4);
        reading(x, 8, 7, 5);
        value(x, 0, 7);
        atHand(x, 1);
        said(x, "5", 4);
        due("LAST", x.about(1), 1);
        atHand(x, NONE);
        said(x, "16 6", 4);
        atHand(x, NONE);
    }

    private static void keptNotAskedForAnyMore() {
        sentence = "or that isn't ASKED FOR any more, THE NEXT comes";
        VoiceForm x = new VoiceForm();
        due("choice", x.choice(20, false, 50, 51, 52, NONE, NONE, NONE), 0);
        for (int f = 1; f < 4; f++) {
            due("digits", x.digits(20 + f, 1, false, false), f);
        }
        due("needs", x.needs(2, 0, 1), true);
        said(x, "51", 4);
        said(x, "17 22", 5);
        said(x, "16 51", 4);
        atHand(x, 2);
        said(x, "16 52", 4);
        due("told(7)", x.told(7), 0);
        atHand(x, 3);
        said(x, "11", 5);
        atHand(x, 1);
        said(x, "11", 5);
        atHand(x, 0);
        said(x, "11", 6);
        // At the END no FIELD is at hand: it stays, though a FIELD is ASKED FOR now.
        VoiceForm y = chain(2);
        said(y, "51", 4);
        atHand(y, NONE);
        said(y, "16 50", 4);
        due("FIELDS ASKED FOR without a VALUE", y.about(3), 1);
        atHand(y, NONE);
        said(y, "12", 6);
    }

    private static void anotherFieldComes() {
        sentence = "Whenever another FIELD (or the END) comes, but by BACK, the FIELD that was at hand (not the END) "
                + "is put on a pile";
        VoiceForm x = withDigits(1, 1);
        said(x, "17 20", 5);
        said(x, "11", 6);
        said(x, "17 21", 5);
        said(x, "17 21", 5);
        said(x, "11", 5);
        atHand(x, 0);
        said(x, "11", 6);
        said(x, "12", 5);
        said(x, "11", 5);
        atHand(x, 0);
        said(x, "11", 6);
        said(x, "1", 4);
        said(x, "1", 4);
        atHand(x, NONE);
        said(x, "17 20", 5);
        said(x, "11", 5);
        atHand(x, 1);
        said(x, "11", 5);
        atHand(x, 0);
        said(x, "11", 6);
        atHand(x, 0);
    }

    private static void pileOfTwenty() {
        sentence = "a pile (of 20 at most: the lowest falls out)";
        for (int moves : new int[] {1, 19, 20, 21, 22, 40, 41, 45}) {
            VoiceForm x = new VoiceForm();
            for (int f = 0; f < 12; f++) {
                due("digits", x.digits(20 + f, 1, false, false), f);
            }
            for (int i = 1; i <= moves; i++) {
                said(x, "17 " + (20 + i % 12), 5);
            }
            for (int i = moves - 1; i >= Math.max(moves - 20, 0); i--) {
                said(x, "11", 5);
                atHand(x, i % 12);
            }
            int lowest = Math.max(moves - 20, 0) % 12;
            said(x, "11", 6);
            atHand(x, lowest);
            said(x, "17 " + (20 + (lowest + 1) % 12), 5);
            said(x, "11", 5);
            atHand(x, lowest);
            said(x, "11", 6);
        }
    }

    private static void backOverThoseNotAskedFor() {
        sentence = "BACK: the uppermost of the pile comes, and is off it; ones that aren't ASKED FOR are taken off "
                + "as well";
        VoiceForm x = new VoiceForm();
        due("choice", x.choice(20, false, 50, 51, NONE, NONE, NONE, NONE), 0);
        for (int f = 1; f < 4; f++) {
            due("digits", x.digits(20 + f, 1, false, false), f);
        }
        due("needs", x.needs(1, 0, 0), true);
        due("needs", x.needs(2, 0, 0), true);
        said(x, "17 23", 5);
        said(x, "17 20", 5);
        said(x, "50", 4);
        said(x, "1", 4);
        said(x, "2", 4);
        atHand(x, 3);
        // The pile: 0, 3, 0, 1, 2, of which 1 and 2 are ASKED FOR no more.
        said(x, "17 20", 5);
        said(x, "51", 4);
        atHand(x, 3);
        for (int want : new int[] {0, 3, 0, 3, 0}) {
            said(x, "11", 5);
            atHand(x, want);
        }
        said(x, "11", 6);
        atHand(x, 0);
        said(x, "50", 4);
        atHand(x, 1);
        said(x, "11", 5);
        atHand(x, 0);
        said(x, "11", 6);
    }

    private static void backIfThereIsNone() {
        sentence = "BACK: ... if there is none: 6";
        VoiceForm x = withDigits(1, 1);
        String stands = look(x);
        said(x, "11", 6);
        due("what stands", look(x), stands);
        said(x, "5", 4);
        said(x, "11", 5);
        stands = look(x);
        said(x, "11", 6);
        due("what stands", look(x), stands);
        value(x, 0, 5);

        // As many on the pile as aren't ASKED FOR, above FIELD 0: 20 of them push it out.
        for (int count = 1; count <= 21; count++) {
            VoiceForm y = new VoiceForm();
            due("choice", y.choice(20, false, 50, 51, NONE, NONE, NONE, NONE), 0);
            due("digits", y.digits(21, 1, false, false), 1);
            due("digits", y.digits(22, 1, false, false), 2);
            due("needs", y.needs(1, 0, 0), true);
            due("needs", y.needs(2, 0, 0), true);
            said(y, "50", 4);
            for (int i = 1; i < count; i++) {
                said(y, i % 2 == 1 ? "17 22" : "17 21", 5);
            }
            said(y, "16 51", 4);
            atHand(y, NONE);
            said(y, "11", count < 20 ? 5 : 6);
            atHand(y, count < 20 ? 0 : NONE);
            said(y, "11", 6);
        }
    }

    private static void skipAtTheEnd() {
        sentence = "SKIP: it is SKIPPED, THE NEXT comes (at the END: 6)";
        VoiceForm x = withDigits(1, 1);
        said(x, "12", 5);
        due("SKIPPED", x.field(0, 6), 1);
        due("SKIPPED", x.field(1, 6), 0);
        atHand(x, 1);
        said(x, "12", 5);
        due("SKIPPED", x.field(1, 6), 1);
        atHand(x, NONE);
        String stands = look(x);
        said(x, "12", 6);
        due("what stands", look(x), stands);
        said(x, "11", 5);
        atHand(x, 1);
        due("SKIPPED", x.field(1, 6), 1);
        said(x, "12", 5);
        atHand(x, NONE);
        said(x, "17 20", 5);
        due("SKIPPED no more", x.field(0, 6), 0);
        due("SKIPPED", x.field(1, 6), 1);
        said(x, "12", 5);
        due("SKIPPED", x.field(0, 6), 1);
        atHand(x, NONE);
        VoiceForm y = new VoiceForm();
        said(y, "12", 6);
        atHand(y, NONE);
    }

    private static void left() {
        sentence = "LEFT: 5";
        VoiceForm x = withDigits(1);
        String stands = look(x);
        said(x, "13", 5);
        due("what stands", look(x), stands);
        said(x, "5", 4);
        stands = look(x);
        said(x, "13", 5);
        due("what stands at the END", look(x), stands);
        due("LEFT of an empty form", new VoiceForm().about(3), 0);
    }

    private static void stop() {
        sentence = "STOP: 5; the talk is STOPPED: SAY tells 1 till it goes on";
        VoiceForm x = withDigits(1, 1);
        said(x, "14", 5);
        reading(x, 4, 0, 5);
        due("STOPPED", x.about(4), 1);
        String stands = look(x);
        for (String row : new String[] {"5", "11", "12", "13", "14", "15", "16", "17 21", "16 5", "40", "-", ""}) {
            said(x, row, 1);
            due("told(0)", x.told(0), 1);
            reading(x, NONE, NONE, NONE);
            other(x, NONE, NONE, NONE);
            due("what stands", look(x), stands);
        }
        due("SAYS that told 0 or 1", x.about(5), 9);
        due("goOn()", x.goOn(), true);
        due("STOPPED", x.about(4), 0);
        said(x, "", 0);
        said(x, "5", 4);
        value(x, 0, 5);
    }

    private static void goNotAskedFor() {
        sentence = "GO: that FIELD comes, SKIPPED no more (6 if it isn't ASKED FOR)";
        VoiceForm x = chain(3);
        String stands = look(x);
        said(x, "17 21", 6);
        reading(x, 7, 1, 5);
        said(x, "17 22", 6);
        due("what stands", look(x), stands);
        said(x, "11", 6);
        said(x, "50", 4);
        said(x, "12", 5);
        due("SKIPPED", x.field(1, 6), 1);
        atHand(x, NONE);
        said(x, "17 22", 6);
        atHand(x, NONE);
        said(x, "17 21", 5);
        due("SKIPPED", x.field(1, 6), 0);
        atHand(x, 1);
        said(x, "12", 5);
        said(x, "17 20", 5);
        said(x, "51", 4);
        said(x, "17 21", 6);
        due("SKIPPED, as GO wasn't done", x.field(1, 6), 1);
    }
}

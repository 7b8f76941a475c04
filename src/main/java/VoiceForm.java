import java.util.Arrays;

/** A talker of forms: what was heard fills fields, or is done as an order. See ../shared/DOC.md. */
public final class VoiceForm {
    public static final int NONE = -1;

    private static final int MOST_FIELDS = 12;
    private static final int MOST_DIGITS = 8;
    private static final int MOST_CHOICES = 6;
    private static final int MOST_PLACES = 8;
    private static final int MOST_HEARD = 4;
    private static final int MOST_PILED = 20;
    private static final int MOST_MISSES = 9;
    private static final int MOST_COST = 99;
    private static final int MOST_NEAR = 200;

    private static final int WORD_DOUBLE = 10;
    private static final int WORD_BACK = 11;
    private static final int WORD_NO = 16;
    private static final int WORD_GO = 17;
    private static final int FIRST_NAME = 20;
    private static final int LAST_WORD = 59;

    private static final int ANSWER = 0;
    private static final int BACK = 1;
    private static final int SKIP = 2;
    private static final int LEFT = 3;
    private static final int STOP = 4;
    private static final int YES = 5;
    private static final int NO = 6;
    private static final int GO = 7;
    private static final int MEND = 8;

    private static final int NOTHING_HEARD = 0;
    private static final int NO_READING = 1;
    private static final int ASKED_WHICH = 2;
    private static final int READ_BACK = 3;
    private static final int KEPT = 4;
    private static final int DONE = 5;
    private static final int NOT_DONE = 6;

    private static final int WAITS_FOR_NOTHING = 0;
    private static final int WAITS_FOR_VALUE = 1;
    private static final int WAITS_FOR_WHICH = 2;

    /** Above each cost that a reading can have. */
    private static final int FAR = 1000000;
    /** Above each value, so that sort * SORT_STEP + value is in the order of sorts, then values. */
    private static final int SORT_STEP = 100000000;

    private final Form form;
    private final Heard heard;
    private final Reader reader;
    private final Talk talk;
    /** The words given to choice, kept here so that no call makes a row of its own. */
    private final int[] offered;
    /** What the latest SAY told; NONE ahead of any. */
    private int latest;
    private int misses;
    private int differing;

    public VoiceForm() {
        form = new Form();
        heard = new Heard();
        reader = new Reader(form, heard);
        talk = new Talk(form, reader);
        offered = new int[MOST_CHOICES];
        latest = NONE;
    }

    public int digits(int name, int length, boolean check, boolean careful) {
        if (latest != NONE || !form.canName(name) || length < 1 || length > MOST_DIGITS) {
            return NONE;
        }
        talk.atHand = 0;
        return form.addDigits(name, length, check, careful);
    }

    public int choice(int name, boolean careful, int a, int b, int c, int d, int e, int f) {
        offered[0] = a;
        offered[1] = b;
        offered[2] = c;
        offered[3] = d;
        offered[4] = e;
        offered[5] = f;
        int count = countOffered();
        if (latest != NONE || !form.canName(name) || count == 0) {
            return NONE;
        }
        talk.atHand = 0;
        return form.addChoice(name, careful, offered, count);
    }

    public boolean needs(int field, int other, int value) {
        return latest == NONE && form.addNeed(field, other, value);
    }

    public boolean costs(int noise, int order, int near) {
        if (!isWithin(noise, MOST_COST) || !isWithin(order, MOST_COST) || !isWithin(near, MOST_NEAR)) {
            return false;
        }
        reader.noise = noise;
        reader.order = order;
        reader.near = near;
        return true;
    }

    public int place() {
        return heard.addPlace();
    }

    public int word(int w, int cost) {
        if (!isWithin(w, LAST_WORD) || !isWithin(cost, MOST_COST)) {
            return NONE;
        }
        return heard.addWord(w, cost);
    }

    public int say() {
        talk.fallen = 0;
        reader.forget();
        if (!talk.stopped) {
            reader.read(talk.atHand, talk.last);
        }
        if (reader.found(0)) {
            latest = talk.hear();
        } else {
            latest = heard.places == 0 && !talk.stopped ? NOTHING_HEARD : NO_READING;
        }
        heard.clear();
        misses = latest <= NO_READING ? Math.min(misses + 1, MOST_MISSES) : 0;
        differing = latest == ASKED_WHICH ? differingDigits() : 0;
        return latest;
    }

    public boolean goOn() {
        boolean was = talk.stopped;
        talk.stopped = false;
        return was;
    }

    public int told(int what) {
        if (latest == NONE) {
            return NONE;
        }
        switch (what) {
            case 0: return latest;
            case 1: return reader.sort(0);
            case 2: return reader.value(0);
            case 3: return reader.cost(0);
            case 4: return reader.sort(1);
            case 5: return reader.value(1);
            case 6: return reader.cost(1);
            case 7: return talk.fallen;
            case 8: return differing;
            default: return NONE;
        }
    }

    public int about(int what) {
        switch (what) {
            case 0: return talk.atHand;
            case 1: return talk.last;
            case 2: return talk.waits;
            case 3: return form.countOpen();
            case 4: return oneIf(talk.stopped);
            case 5: return misses;
            case 6: return form.count;
            case 7: return form.countUnheard();
            case 8: return heard.places;
            default: return NONE;
        }
    }

    public int field(int f, int what) {
        Slot slot = form.slotAt(f);
        if (slot == null) {
            return NONE;
        }
        switch (what) {
            case 0: return slot.name;
            case 1: return slot.length;
            case 2: return slot.wordCount;
            case 3: return oneIf(slot.asked);
            case 4: return oneIf(slot.hasValue);
            case 5: return oneIf(slot.hasValue && slot.heardBack);
            case 6: return oneIf(slot.skipped);
            case 7: return slot.hasValue ? slot.value : NONE;
            default: return NONE;
        }
    }

    public int hearBack() {
        return form.hearAllBack();
    }

    public boolean send() {
        if (talk.sent || form.countOpen() > 0 || form.countUnheard() > 0) {
            return false;
        }
        talk.sent = true;
        return true;
    }

    /** The field at hand is still the one that both answers are for: a SAY that asks which moves nothing. */
    private int differingDigits() {
        Slot slot = form.slotAt(talk.atHand);
        if (slot == null || reader.sort(0) != ANSWER || reader.sort(1) != ANSWER) {
            return 0;
        }
        int bits = 0;
        int one = reader.value(0);
        int two = reader.value(1);
        for (int i = slot.length - 1; i >= 0; i--) {
            if (one % 10 != two % 10) {
                bits |= 1 << i;
            }
            one /= 10;
            two /= 10;
        }
        return bits;
    }

    /** How many words choice was given ahead of the first NONE; 0 where one of them can't stand. */
    private int countOffered() {
        int count = 0;
        while (count < MOST_CHOICES && offered[count] != NONE) {
            if (!isName(offered[count])) {
                return 0;
            }
            for (int i = 0; i < count; i++) {
                if (offered[i] == offered[count]) {
                    return 0;
                }
            }
            count++;
        }
        return count;
    }

    private static boolean isWithin(int number, int most) {
        return number >= 0 && number <= most;
    }

    private static boolean isName(int word) {
        return word >= FIRST_NAME && word <= LAST_WORD;
    }

    private static int oneIf(boolean holds) {
        return holds ? 1 : 0;
    }

    /** Words that each stand for a number: those of a CHOICE, or the NAMES of the form. */
    private interface WordList {
        /** The number that the word stands for, NONE if it isn't here. */
        int numberOf(int word);
    }

    /** One FIELD. */
    private static final class Slot implements WordList {
        int name;
        /** 0 of a CHOICE. */
        int length;
        boolean check;
        boolean careful;
        final int[] words;
        /** 0 of DIGITS. */
        int wordCount;
        /** The FIELD that this one needs; NONE: it needs nothing. */
        int need;
        int neededValue;
        /** Whether it is ASKED FOR, as Form.reckonNeeds found it. */
        boolean asked;
        boolean hasValue;
        int value;
        boolean heardBack;
        boolean skipped;

        Slot() {
            words = new int[MOST_CHOICES];
            need = NONE;
        }

        public int numberOf(int word) {
            for (int i = 0; i < wordCount && i < words.length; i++) {
                if (words[i] == word) {
                    return i;
                }
            }
            return NONE;
        }

        /** No reading without a CHECK that holds comes this far, so CHECK alone frees from reading back. */
        boolean isReadBack() {
            return careful && !check;
        }

        boolean isMetBy(Slot needed) {
            return needed != null && needed.asked && needed.hasValue && needed.value == neededValue;
        }

        boolean isOpen() {
            return asked && !hasValue;
        }

        boolean isUnheard() {
            return asked && hasValue && !heardBack;
        }
    }

    /** All FIELDS, and what they need of one another. */
    private static final class Form implements WordList {
        private final Slot[] slots;
        int count;

        Form() {
            slots = new Slot[MOST_FIELDS];
            for (int i = 0; i < MOST_FIELDS; i++) {
                slots[i] = new Slot();
            }
        }

        Slot slotAt(int f) {
            return f >= 0 && f < count && f < slots.length ? slots[f] : null;
        }

        public int numberOf(int word) {
            for (int f = 0; f < count && f < slots.length; f++) {
                if (slots[f].name == word) {
                    return f;
                }
            }
            return NONE;
        }

        boolean canName(int name) {
            return count < slots.length && isName(name) && numberOf(name) == NONE;
        }

        int addDigits(int name, int length, boolean check, boolean careful) {
            int f = addSlot(name, careful);
            Slot slot = slotAt(f);
            if (slot != null) {
                slot.length = length;
                slot.check = check;
            }
            return f;
        }

        int addChoice(int name, boolean careful, int[] words, int wordCount) {
            int f = addSlot(name, careful);
            Slot slot = slotAt(f);
            if (slot != null) {
                for (int i = 0; i < wordCount && i < words.length && i < slot.words.length; i++) {
                    slot.words[i] = words[i];
                }
                slot.wordCount = wordCount;
            }
            return f;
        }

        private int addSlot(int name, boolean careful) {
            if (!canName(name)) {
                return NONE;
            }
            count++;
            Slot slot = slotAt(count - 1);
            if (slot != null) {
                slot.name = name;
                slot.careful = careful;
            }
            reckonNeeds();
            return count - 1;
        }

        boolean addNeed(int f, int other, int value) {
            Slot slot = slotAt(f);
            Slot needed = slotAt(other);
            if (slot == null || needed == null || other >= f || value < 0 || value >= needed.wordCount) {
                return false;
            }
            slot.need = other;
            slot.neededValue = value;
            reckonNeeds();
            return true;
        }

        int countOpen() {
            int open = 0;
            for (int f = 0; f < count && f < slots.length; f++) {
                open += oneIf(slots[f].isOpen());
            }
            return open;
        }

        int countUnheard() {
            int unheard = 0;
            for (int f = 0; f < count && f < slots.length; f++) {
                unheard += oneIf(slots[f].isUnheard());
            }
            return unheard;
        }

        int hearAllBack() {
            int unheard = countUnheard();
            for (int f = 0; f < count && f < slots.length; f++) {
                slots[f].heardBack = slots[f].hasValue;
            }
            return unheard;
        }

        int nextBehind(int f) {
            int next = firstToCome(f + 1);
            return next == NONE ? firstToCome(0) : next;
        }

        private int firstToCome(int from) {
            for (int f = Math.max(from, 0); f < count && f < slots.length; f++) {
                if (slots[f].isOpen() && !slots[f].skipped) {
                    return f;
                }
            }
            return NONE;
        }

        /** How many VALUES fell. */
        int keepValue(int f, int value, boolean heardBack) {
            Slot slot = slotAt(f);
            if (slot == null) {
                return 0;
            }
            slot.hasValue = true;
            slot.value = value;
            slot.heardBack = heardBack;
            return reckonNeeds();
        }

        /** How many VALUES fell. One way through is enough: a FIELD needs only those ahead of it. */
        private int reckonNeeds() {
            int fallen = 0;
            for (int f = 0; f < count && f < slots.length; f++) {
                Slot slot = slots[f];
                slot.asked = slot.need == NONE || slot.isMetBy(slotAt(slot.need));
                if (slot.hasValue && !slot.asked) {
                    slot.hasValue = false;
                    slot.heardBack = false;
                    fallen++;
                }
            }
            return fallen;
        }
    }

    /** The PLACES that were HEARD since the latest SAY. */
    private static final class Heard {
        private final int[] words;
        private final int[] costs;
        private final int[] counts;
        int places;

        Heard() {
            words = new int[MOST_PLACES * MOST_HEARD];
            costs = new int[MOST_PLACES * MOST_HEARD];
            counts = new int[MOST_PLACES];
        }

        void clear() {
            places = 0;
        }

        int addPlace() {
            if (places >= counts.length) {
                return NONE;
            }
            counts[places] = 0;
            places++;
            return places;
        }

        int addWord(int word, int cost) {
            int p = places - 1;
            if (p < 0 || p >= counts.length || counts[p] >= MOST_HEARD || costOf(p, word) != NONE) {
                return NONE;
            }
            int at = p * MOST_HEARD + counts[p];
            if (at < 0 || at >= words.length || at >= costs.length) {
                return NONE;
            }
            words[at] = word;
            costs[at] = cost;
            counts[p]++;
            return counts[p];
        }

        int wordsIn(int p) {
            return p >= 0 && p < places && p < counts.length ? counts[p] : 0;
        }

        int wordAt(int p, int i) {
            int at = p * MOST_HEARD + i;
            return i >= 0 && i < wordsIn(p) && at < words.length ? words[at] : NONE;
        }

        int costAt(int p, int i) {
            int at = p * MOST_HEARD + i;
            return i >= 0 && i < wordsIn(p) && at < costs.length ? costs[at] : NONE;
        }

        int costOf(int p, int word) {
            for (int i = 0; i < wordsIn(p); i++) {
                if (wordAt(p, i) == word) {
                    return costAt(p, i);
                }
            }
            return NONE;
        }
    }

    /** Rows that each keep the two cheapest of the keys offered to them; of like ones the least key. */
    private static final class Twos {
        private final int[] costs;
        private final int[] keys;

        Twos(int rows) {
            int size = rows > 0 ? 2 * rows : 0;
            costs = new int[size];
            keys = new int[size];
        }

        void clear() {
            Arrays.fill(costs, FAR);
            Arrays.fill(keys, NONE);
        }

        /** FAR where there is none. */
        int cost(int row, int rank) {
            int at = 2 * row + rank;
            return at >= 0 && at < costs.length ? costs[at] : FAR;
        }

        /** NONE where there is none. */
        int key(int row, int rank) {
            int at = 2 * row + rank;
            return at >= 0 && at < keys.length ? keys[at] : NONE;
        }

        void offer(int row, int cost, int key) {
            int one = 2 * row;
            int two = one + 1;
            if (one < 0 || two >= costs.length || two >= keys.length) {
                return;
            }
            if (key == keys[one]) {
                costs[one] = Math.min(cost, costs[one]);
            } else if (cost < costs[one] || cost == costs[one] && key < keys[one]) {
                costs[two] = costs[one];
                keys[two] = keys[one];
                costs[one] = cost;
                keys[one] = key;
            } else if (cost < costs[two] || cost == costs[two] && key < keys[two]) {
                costs[two] = cost;
                keys[two] = key;
            }
        }
    }

    /**
     * The cheapest rows of digits, found PLACE by PLACE. Readings that stand alike (as many digits, a DOUBLE
     * open or not, the same sum of CHECK) can only go on alike, so the two cheapest of each stand are enough.
     */
    private static final class DigitRows {
        private static final int SUMS = 10;
        private static final int STANDS = 2 * (MOST_DIGITS + 1);

        private final Twos rows;
        private int length;
        private boolean check;

        DigitRows() {
            rows = new Twos(STANDS * SUMS);
        }

        void clear(int digits, boolean checked) {
            rows.clear();
            length = digits;
            check = checked;
        }

        /** A reading may begin behind what was heard so far, at this cost. */
        void begin(int cost) {
            rows.offer(0, cost, 0);
        }

        /** The longest stands first: what grows here must not take a second word of the same PLACE. */
        void hearPlace(Heard heard, int p, int noise) {
            for (int stand = 2 * length - 1; stand >= 0; stand--) {
                for (int i = 0; i < heard.wordsIn(p); i++) {
                    int word = heard.wordAt(p, i);
                    int next = standBehind(stand, word);
                    if (next != NONE) {
                        grow(stand, next, word, heard.costAt(p, i) - noise);
                    }
                }
            }
        }

        int cost(int rank) {
            return rows.cost(2 * length * SUMS, rank);
        }

        int value(int rank) {
            return rows.key(2 * length * SUMS, rank);
        }

        /** Where a stand comes by a word: even ones lie between digits, odd ones behind a DOUBLE; NONE if it can't. */
        private int standBehind(int stand, int word) {
            boolean open = stand % 2 == 1;
            if (word == WORD_DOUBLE && !open && stand + 4 <= 2 * length) {
                return stand + 1;
            }
            int next = open ? stand + 3 : stand + 2;
            return isWithin(word, 9) && next <= 2 * length ? next : NONE;
        }

        private void grow(int from, int to, int word, int extra) {
            int weight = 0;
            int factor = 1;
            int plus = 0;
            for (int digits = from / 2; digits < to / 2; digits++) {
                weight += weight(digits, word);
                factor *= 10;
                plus = 10 * plus + word;
            }
            int sums = check ? SUMS : 1;
            for (int sum = 0; sum < sums; sum++) {
                for (int rank = 0; rank < 2; rank++) {
                    int cost = rows.cost(from * SUMS + sum, rank);
                    if (cost < FAR) {
                        int key = rows.key(from * SUMS + sum, rank) * factor + plus;
                        rows.offer(to * SUMS + (sum + weight) % SUMS, cost + extra, key);
                    }
                }
            }
        }

        /** What a digit adds to the sum of CHECK; nothing without CHECK, so that one sum is used then. */
        private int weight(int index, int digit) {
            if (!check) {
                return 0;
            }
            if ((length - 1 - index) % 2 == 0) {
                return digit;
            }
            return digit > 4 ? 2 * digit - 9 : 2 * digit;
        }
    }

    /** Finds THE READING (rank 0) and THE OTHER (rank 1) of what was HEARD. */
    private static final class Reader {
        private final Form form;
        private final Heard heard;
        private final Twos meanings;
        private final DigitRows digitRows;
        int noise;
        int order;
        int near;

        Reader(Form fields, Heard places) {
            form = fields;
            heard = places;
            meanings = new Twos(1);
            digitRows = new DigitRows();
            meanings.clear();
            noise = 30;
            order = 5;
            near = 10;
        }

        void forget() {
            meanings.clear();
        }

        /** Call forget first: what was found before is kept. */
        void read(int atHand, int last) {
            offerAnswers(form.slotAt(atHand), ANSWER);
            offerOrders();
            offerListed(form, GO);
            offerAnswers(form.slotAt(last), MEND);
        }

        boolean found(int rank) {
            return key(rank) != NONE;
        }

        /** Sort and VALUE in one number, as taken apart by sortOf and valueOf; NONE without. */
        int key(int rank) {
            return meanings.key(0, rank);
        }

        int sort(int rank) {
            return found(rank) ? sortOf(key(rank)) : NONE;
        }

        int value(int rank) {
            return found(rank) ? valueOf(key(rank)) : NONE;
        }

        int cost(int rank) {
            return found(rank) ? meanings.cost(0, rank) : NONE;
        }

        boolean isOtherNear() {
            return found(0) && found(1) && cost(1) < cost(0) + near;
        }

        static int sortOf(int key) {
            return key / SORT_STEP;
        }

        static int valueOf(int key) {
            return key % SORT_STEP;
        }

        private void offerAnswers(Slot slot, int sort) {
            if (slot == null) {
                return;
            }
            if (slot.length > 0) {
                offerDigits(slot, sort);
            } else {
                offerListed(slot, sort);
            }
        }

        private void offerOrders() {
            for (int p = 0; p < heard.places; p++) {
                for (int i = 0; i < heard.wordsIn(p); i++) {
                    int word = heard.wordAt(p, i);
                    if (word >= WORD_BACK && word <= WORD_NO) {
                        offer(BACK + word - WORD_BACK, 0, heard.costAt(p, i) - noise);
                    }
                }
            }
        }

        /** One word of the list, behind the word that leads this sort where one does. */
        private void offerListed(WordList list, int sort) {
            int lead = leadAtFirst(sort);
            for (int p = 0; p < heard.places; p++) {
                for (int i = 0; i < heard.wordsIn(p) && lead < FAR; i++) {
                    int number = list.numberOf(heard.wordAt(p, i));
                    if (number != NONE) {
                        offer(sort, number, lead + heard.costAt(p, i) - noise);
                    }
                }
                lead = Math.min(lead, leadIn(p, sort));
            }
        }

        private void offerDigits(Slot slot, int sort) {
            // Each digit takes a word, a doubled one two for two: with fewer PLACES there is nothing to look for.
            if (heard.places < slot.length) {
                return;
            }
            digitRows.clear(slot.length, slot.check);
            int lead = leadAtFirst(sort);
            if (lead < FAR) {
                digitRows.begin(lead);
            }
            for (int p = 0; p < heard.places; p++) {
                digitRows.hearPlace(heard, p, noise);
                lead = leadIn(p, sort);
                if (lead < FAR) {
                    digitRows.begin(lead);
                }
            }
            for (int rank = 0; rank < 2; rank++) {
                if (digitRows.cost(rank) < FAR) {
                    offer(sort, digitRows.value(rank), digitRows.cost(rank));
                }
            }
        }

        private static int leadAtFirst(int sort) {
            return sort == ANSWER ? 0 : FAR;
        }

        private int leadIn(int p, int sort) {
            if (sort == ANSWER) {
                return FAR;
            }
            int cost = heard.costOf(p, sort == GO ? WORD_GO : WORD_NO);
            return cost == NONE ? FAR : cost - noise;
        }

        /** Extra is what the words that are taken cost beyond the NOISE of their PLACES. */
        private void offer(int sort, int value, int extra) {
            int cost = heard.places * noise + extra + (sort == ANSWER ? 0 : order);
            meanings.offer(0, cost, sort * SORT_STEP + value);
        }
    }

    /** The FIELDS that were at hand, the latest uppermost. */
    private static final class Pile {
        private final int[] fields;
        private int size;

        Pile() {
            fields = new int[MOST_PILED];
        }

        void push(int f) {
            if (size >= fields.length) {
                for (int i = 1; i < fields.length; i++) {
                    fields[i - 1] = fields[i];
                }
                size = fields.length - 1;
            }
            if (size >= 0 && size < fields.length) {
                fields[size] = f;
                size++;
            }
        }

        /** NONE if the pile is empty. */
        int pop() {
            if (size <= 0 || size > fields.length) {
                return NONE;
            }
            size--;
            return fields[size];
        }
    }

    /** Where the talk stands, and what becomes of a MEANING. */
    private static final class Talk {
        private final Form form;
        private final Reader reader;
        private final Pile pile;
        /** NONE at the END. */
        int atHand;
        int last;
        boolean stopped;
        boolean sent;
        /** How many VALUES fell by the latest SAY. */
        int fallen;
        int waits;
        private int readField;
        private int readValue;
        private int firstKey;
        private int secondKey;

        Talk(Form fields, Reader meanings) {
            form = fields;
            reader = meanings;
            pile = new Pile();
            atHand = NONE;
            last = NONE;
            waits = WAITS_FOR_NOTHING;
        }

        /** Takes what the reader found; tells 2 to 6. */
        int hear() {
            int waited = waits;
            waits = WAITS_FOR_NOTHING;
            if (reader.isOtherNear()) {
                waits = WAITS_FOR_WHICH;
                firstKey = reader.key(0);
                secondKey = reader.key(1);
                return ASKED_WHICH;
            }
            int sort = reader.sort(0);
            boolean yes = sort == YES;
            if (waited == WAITS_FOR_NOTHING || !yes && sort != NO) {
                return take(reader.key(0));
            }
            if (waited == WAITS_FOR_WHICH) {
                return take(yes ? firstKey : secondKey);
            }
            return yes ? keep(readField, readValue, true) : DONE;
        }

        private int take(int key) {
            int value = Reader.valueOf(key);
            switch (Reader.sortOf(key)) {
                case ANSWER: return takeAnswer(atHand, value);
                case BACK: return goBack();
                case SKIP: return skip();
                case LEFT: return DONE;
                case STOP:
                    stopped = true;
                    return DONE;
                case GO: return goTo(value);
                case MEND: return takeAnswer(last, value);
                default: return NOT_DONE;
            }
        }

        private int takeAnswer(int f, int value) {
            Slot slot = form.slotAt(f);
            if (slot == null || !slot.isReadBack()) {
                return keep(f, value, false);
            }
            waits = WAITS_FOR_VALUE;
            readField = f;
            readValue = value;
            return READ_BACK;
        }

        private int keep(int f, int value, boolean readBack) {
            fallen = form.keepValue(f, value, readBack);
            last = f;
            sent = false;
            Slot slot = form.slotAt(atHand);
            if (slot != null && (f == atHand || !slot.asked)) {
                come(form.nextBehind(atHand));
            }
            return KEPT;
        }

        private void come(int f) {
            if (f == atHand) {
                return;
            }
            if (atHand != NONE) {
                pile.push(atHand);
            }
            atHand = f;
        }

        private int goBack() {
            for (int i = 0; i < MOST_PILED; i++) {
                int f = pile.pop();
                Slot slot = form.slotAt(f);
                if (slot != null && slot.asked) {
                    atHand = f;
                    return DONE;
                }
            }
            return NOT_DONE;
        }

        private int skip() {
            Slot slot = form.slotAt(atHand);
            if (slot == null) {
                return NOT_DONE;
            }
            slot.skipped = true;
            come(form.nextBehind(atHand));
            return DONE;
        }

        private int goTo(int f) {
            Slot slot = form.slotAt(f);
            if (slot == null || !slot.asked) {
                return NOT_DONE;
            }
            slot.skipped = false;
            come(f);
            return DONE;
        }
    }
}

import java.util.ArrayList;
import java.util.List;
import java.util.Map;
import java.util.TreeMap;

/**
 * Long runs of calls, each answer compared with a second program written from the document in the slowest, plainest
 * way: every reading of what was heard is written out. The calls are drawn from a fixed row of numbers.
 */
public final class PlainModelRuns {
    private static final int RUNS = 3000;
    private static final int CALLS = 512;

    private static int wrong = 0;

    public static void main(String[] args) {
        long says = 0;
        long[] toldCounts = new long[7];
        long[] sortCounts = new long[9];
        for (int run = 0; run < RUNS && wrong < 20; run++) {
            says += new Run(run).go(toldCounts, sortCounts);
        }
        for (int i = 0; i < toldCounts.length; i++) {
            require(toldCounts[i] > 200, "SAY told " + i + " only " + toldCounts[i] + " times");
        }
        for (int i = 0; i < sortCounts.length; i++) {
            require(sortCounts[i] > 200, "sort " + i + " was read only " + sortCounts[i] + " times");
        }
        System.out.println(wrong == 0 ? "all answers of " + says + " says are as due" : wrong + " wrong");
        if (wrong != 0) {
            System.exit(1);
        }
    }

    private static void require(boolean holds, String otherwise) {
        if (!holds) {
            wrong++;
            System.out.println(otherwise);
        }
    }

    /** One run of calls on one object and one plain model. */
    private static final class Run {
        final int number;
        final VoiceForm x = new VoiceForm();
        final Plain m = new Plain();
        final StringBuilder log = new StringBuilder();
        long seed;
        int calls = 0;
        boolean bad = false;

        Run(int number) {
            this.number = number;
            seed = 88172645463325252L + 7919L * number;
        }

        int draw(int below) {
            seed = seed * 6364136223846793005L + 1442695040888963407L;
            return (int) ((seed >>> 33) % below);
        }

        boolean chance(int percent) {
            return draw(100) < percent;
        }

        void due(String call, int got, int want) {
            calls++;
            log.append(call).append(" = ").append(want).append('\n');
            if (got != want && !bad) {
                bad = true;
                wrong++;
                System.out.println("run " + number + ":\n" + log + "  but answered " + got);
            }
        }

        int go(long[] toldCounts, long[] sortCounts) {
            buildForm();
            if (chance(60)) {
                costs();
            }
            int says = 0;
            boolean thorough = chance(40);
            while (calls < CALLS - 60 && !bad) {
                hear();
                due("say()", x.say(), m.say());
                says++;
                toldCounts[m.latest]++;
                if (m.first != null) {
                    sortCounts[(int) (m.first / Plain.STEP)]++;
                }
                look(thorough);
                if (chance(3)) {
                    buildOne();
                }
                if (chance(4)) {
                    costs();
                }
                if (chance(m.stopped ? 50 : 3)) {
                    due("goOn()", x.goOn() ? 1 : 0, m.goOn() ? 1 : 0);
                }
                if (chance(15)) {
                    due("hearBack()", x.hearBack(), m.hearBack());
                }
                if (chance(20)) {
                    due("send()", x.send() ? 1 : 0, m.send() ? 1 : 0);
                }
            }
            return says;
        }

        void buildForm() {
            int tries = draw(18);
            for (int i = 0; i < tries; i++) {
                buildOne();
                if (chance(60)) {
                    need();
                }
            }
            if (chance(10)) {
                due("send()", x.send() ? 1 : 0, m.send() ? 1 : 0);
            }
        }

        void buildOne() {
            int name = chance(93) ? 20 + draw(14) : draw(64) - 2;
            boolean careful = chance(30);
            if (chance(50)) {
                int length = chance(70) ? 1 + draw(3) : draw(10);
                boolean check = chance(40);
                due("digits(" + name + ", " + length + ", " + check + ", " + careful + ")",
                        x.digits(name, length, check, careful), m.digits(name, length, check, careful));
                return;
            }
            int[] w = new int[6];
            for (int i = 0; i < 6; i++) {
                w[i] = chance(20) ? -1 : chance(96) ? 30 + draw(10) : draw(64) - 2;
            }
            due("choice(" + name + ", " + careful + ", " + w[0] + ", " + w[1] + ", " + w[2] + ", " + w[3] + ", "
                    + w[4] + ", " + w[5] + ")",
                    x.choice(name, careful, w[0], w[1], w[2], w[3], w[4], w[5]), m.choice(name, careful, w));
        }

        void need() {
            int field = draw(m.fields.size() + 1);
            int other = draw(field + 1) - (chance(5) ? 1 : 0);
            int value = chance(90) ? draw(2) : draw(9) - 1;
            due("needs(" + field + ", " + other + ", " + value + ")",
                    x.needs(field, other, value) ? 1 : 0, m.needs(field, other, value) ? 1 : 0);
        }

        void costs() {
            int noise = chance(50) ? draw(12) : draw(103) - 1;
            int order = chance(50) ? draw(6) : draw(103) - 1;
            int near = chance(70) ? draw(10) : draw(204) - 1;
            due("costs(" + noise + ", " + order + ", " + near + ")",
                    x.costs(noise, order, near) ? 1 : 0, m.costs(noise, order, near) ? 1 : 0);
        }

        /** A row of words that may mean something, with others strewn in. */
        void hear() {
            if (chance(3)) {
                if (chance(50)) {
                    word(draw(60), 0);
                }
                return;
            }
            List<Integer> row = likelyRow();
            int more = chance(25) ? draw(3) : 0;
            for (int i = 0; i < more; i++) {
                row.add(draw(row.size() + 1), someWord());
            }
            for (int w : row) {
                due("place()", x.place(), m.place());
                if (!chance(4)) {
                    word(w, chance(60) ? draw(4) : draw(40));
                }
                if (chance(30)) {
                    int others = chance(90) ? 1 : 1 + draw(5);
                    for (int i = 0; i < others; i++) {
                        word(someWord(), chance(60) ? draw(6) : draw(104) - 2);
                    }
                }
            }
        }

        void word(int w, int cost) {
            due("word(" + w + ", " + cost + ")", x.word(w, cost), m.word(w, cost));
        }

        List<Integer> likelyRow() {
            List<Integer> row = new ArrayList<>();
            int kind = draw(100);
            if (kind < 45) {
                addAnswer(row, m.atHand);
            } else if (kind < 58) {
                row.add(16);
                addAnswer(row, m.last);
            } else if (kind < 68) {
                row.add(17);
                row.add(m.fields.isEmpty() ? 20 : m.fields.get(draw(m.fields.size())).name);
            } else if (kind < 82) {
                row.add(15 + draw(2));
            } else if (kind < 98) {
                row.add(chance(12) ? 14 : 11 + draw(3));
            } else {
                for (int i = draw(10); i >= 0; i--) {
                    row.add(someWord());
                }
            }
            return row;
        }

        void addAnswer(List<Integer> row, int f) {
            if (f < 0) {
                row.add(someWord());
                return;
            }
            Plain.Field field = m.fields.get(f);
            if (field.length == 0) {
                row.add(field.words.get(chance(80) ? 0 : draw(field.words.size())));
                return;
            }
            int left = field.length;
            if (chance(4)) {
                left += draw(3) - 1;
            }
            while (left > 0) {
                if (left > 1 && chance(20)) {
                    row.add(10);
                    left--;
                }
                row.add(draw(chance(50) ? 3 : 10));
                left--;
            }
        }

        int someWord() {
            int kind = draw(10);
            return kind < 4 ? draw(11) : kind < 6 ? 11 + draw(7) : kind < 9 ? 20 + draw(20) : draw(63) - 1;
        }

        void look(boolean thorough) {
            for (int what = -1; what <= 9; what++) {
                if (thorough || chance(8)) {
                    due("told(" + what + ")", x.told(what), m.told(what));
                }
            }
            for (int what = -1; what <= 9; what++) {
                if (thorough || chance(8)) {
                    due("about(" + what + ")", x.about(what), m.about(what));
                }
            }
            int f = draw(m.fields.size() + 2) - 1;
            for (int what = -1; what <= 8; what++) {
                if (thorough || chance(8)) {
                    due("field(" + f + ", " + what + ")", x.field(f, what), m.field(f, what));
                }
            }
        }
    }

    /** The document, word for word. */
    private static final class Plain {
        static final long STEP = 1000000000L;

        static final class Field {
            int name;
            int length;
            boolean check;
            boolean careful;
            List<Integer> words = new ArrayList<>();
            int need = -1;
            int neededValue;
            int value = -1;
            boolean heardBack;
            boolean skipped;
        }

        final List<Field> fields = new ArrayList<>();
        List<Map<Integer, Integer>> heard = new ArrayList<>();
        int noise = 30;
        int order = 5;
        int near = 10;
        int atHand = -1;
        int last = -1;
        final List<Integer> pile = new ArrayList<>();
        boolean stopped;
        boolean sent;
        int latest = -1;
        int fell;
        int misses;
        String waits = "";
        int waitField;
        int waitValue;
        Long waitFirst;
        Long waitSecond;
        Long first;
        Long second;
        Map<Long, Integer> meanings = new TreeMap<>();

        boolean nameIsFree(int name) {
            for (Field f : fields) {
                if (f.name == name) {
                    return false;
                }
            }
            return name >= 20 && name <= 59;
        }

        int add(Field f) {
            fields.add(f);
            atHand = 0;
            return fields.size() - 1;
        }

        int digits(int name, int length, boolean check, boolean careful) {
            if (latest >= 0 || fields.size() == 12 || !nameIsFree(name) || length < 1 || length > 8) {
                return -1;
            }
            Field f = new Field();
            f.name = name;
            f.length = length;
            f.check = check;
            f.careful = careful;
            return add(f);
        }

        int choice(int name, boolean careful, int[] words) {
            if (latest >= 0 || fields.size() == 12 || !nameIsFree(name)) {
                return -1;
            }
            Field f = new Field();
            f.name = name;
            f.careful = careful;
            for (int w : words) {
                if (w == -1) {
                    break;
                }
                if (w < 20 || w > 59 || f.words.contains(w)) {
                    return -1;
                }
                f.words.add(w);
            }
            return f.words.isEmpty() ? -1 : add(f);
        }

        boolean needs(int field, int other, int value) {
            if (latest >= 0 || field < 0 || field >= fields.size() || other < 0 || other >= field) {
                return false;
            }
            if (value < 0 || value >= fields.get(other).words.size()) {
                return false;
            }
            fields.get(field).need = other;
            fields.get(field).neededValue = value;
            return true;
        }

        boolean costs(int noise, int order, int near) {
            if (noise < 0 || noise > 99 || order < 0 || order > 99 || near < 0 || near > 200) {
                return false;
            }
            this.noise = noise;
            this.order = order;
            this.near = near;
            return true;
        }

        int place() {
            if (heard.size() == 8) {
                return -1;
            }
            heard.add(new TreeMap<>());
            return heard.size();
        }

        int word(int w, int cost) {
            if (heard.isEmpty() || w < 0 || w > 59 || cost < 0 || cost > 99) {
                return -1;
            }
            Map<Integer, Integer> place = heard.get(heard.size() - 1);
            if (place.containsKey(w) || place.size() == 4) {
                return -1;
            }
            place.put(w, cost);
            return place.size();
        }

        boolean asked(int f) {
            Field field = fields.get(f);
            if (field.need < 0) {
                return true;
            }
            return asked(field.need) && fields.get(field.need).value == field.neededValue;
        }

        void offer(int sort, long value, int cost) {
            meanings.merge(sort * STEP + value, cost + (sort == 0 ? 0 : order), Math::min);
        }

        /** The value of these words as an answer to the field, -1 if they are none. */
        long answer(int f, List<Integer> words) {
            if (f < 0) {
                return -1;
            }
            Field field = fields.get(f);
            if (field.length == 0) {
                return words.size() == 1 ? field.words.indexOf(words.get(0)) : -1;
            }
            StringBuilder row = new StringBuilder();
            for (int i = 0; i < words.size(); i++) {
                int times = 1;
                if (words.get(i) == 10) {
                    i++;
                    times = 2;
                }
                if (i == words.size() || words.get(i) > 9) {
                    return -1;
                }
                for (int t = 0; t < times; t++) {
                    row.append((char) ('0' + words.get(i)));
                }
            }
            if (row.length() != field.length || field.check && !checkHolds(row.toString())) {
                return -1;
            }
            return Long.parseLong(row.toString());
        }

        static boolean checkHolds(String row) {
            int sum = 0;
            for (int back = 0; back < row.length(); back++) {
                int digit = row.charAt(row.length() - 1 - back) - '0';
                if (back % 2 == 1) {
                    digit *= 2;
                    if (digit > 9) {
                        digit -= 9;
                    }
                }
                sum += digit;
            }
            return sum % 10 == 0;
        }

        void readAll(int place, List<Integer> words, int cost) {
            if (place == heard.size()) {
                readOne(words, cost);
                return;
            }
            readAll(place + 1, words, cost + noise);
            for (Map.Entry<Integer, Integer> w : heard.get(place).entrySet()) {
                words.add(w.getKey());
                readAll(place + 1, words, cost + w.getValue());
                words.remove(words.size() - 1);
            }
        }

        void readOne(List<Integer> words, int cost) {
            if (words.isEmpty()) {
                return;
            }
            long value = answer(atHand, words);
            if (value >= 0) {
                offer(0, value, cost);
            }
            int w = words.get(0);
            if (words.size() == 1 && w >= 11 && w <= 16) {
                offer(w - 10, 0, cost);
            }
            if (words.size() == 2 && w == 17) {
                for (int f = 0; f < fields.size(); f++) {
                    if (fields.get(f).name == words.get(1)) {
                        offer(7, f, cost);
                    }
                }
            }
            if (words.size() > 1 && w == 16) {
                value = answer(last, words.subList(1, words.size()));
                if (value >= 0) {
                    offer(8, value, cost);
                }
            }
        }

        Long best(Long but) {
            Long best = null;
            for (Long m : meanings.keySet()) {
                if (!m.equals(but) && (best == null || meanings.get(m) < meanings.get(best))) {
                    best = m;
                }
            }
            return best;
        }

        int say() {
            fell = 0;
            meanings.clear();
            first = null;
            second = null;
            if (!stopped) {
                readAll(0, new ArrayList<>(), 0);
                first = best(null);
                second = first == null ? null : best(first);
            }
            latest = stopped ? 1 : heard.isEmpty() ? 0 : first == null ? 1 : talk();
            heard = new ArrayList<>();
            misses = latest < 2 ? misses + 1 : 0;
            return latest;
        }

        int talk() {
            String waited = waits;
            waits = "";
            if (second != null && meanings.get(second) < meanings.get(first) + near) {
                waits = "which";
                waitFirst = first;
                waitSecond = second;
                return 2;
            }
            boolean yes = first == 5 * STEP;
            boolean no = first == 6 * STEP;
            if (waited.equals("value") && yes) {
                return keep(waitField, waitValue, true);
            }
            if (waited.equals("value") && no) {
                return 5;
            }
            if (waited.equals("which") && (yes || no)) {
                return take(yes ? waitFirst : waitSecond);
            }
            return take(first);
        }

        int take(long meaning) {
            int sort = (int) (meaning / STEP);
            int value = (int) (meaning % STEP);
            if (sort == 0 || sort == 8) {
                int f = sort == 0 ? atHand : last;
                if (fields.get(f).careful && !fields.get(f).check) {
                    waits = "value";
                    waitField = f;
                    waitValue = value;
                    return 3;
                }
                return keep(f, value, false);
            }
            if (sort == 1) {
                while (!pile.isEmpty()) {
                    int f = pile.remove(pile.size() - 1);
                    if (asked(f)) {
                        atHand = f;
                        return 5;
                    }
                }
                return 6;
            }
            if (sort == 2) {
                if (atHand < 0) {
                    return 6;
                }
                fields.get(atHand).skipped = true;
                come(next(atHand));
                return 5;
            }
            if (sort == 7) {
                if (!asked(value)) {
                    return 6;
                }
                fields.get(value).skipped = false;
                come(value);
                return 5;
            }
            stopped = sort == 4;
            return sort == 3 || sort == 4 ? 5 : 6;
        }

        int next(int behind) {
            int n = fields.size();
            for (int i = behind + 1; i < behind + 1 + n; i++) {
                int f = i < n ? i : i - n;
                // Behind it first, then from the first of all: that is once around.
                if (asked(f) && fields.get(f).value < 0 && !fields.get(f).skipped) {
                    return f;
                }
            }
            return -1;
        }

        void come(int f) {
            if (f == atHand) {
                return;
            }
            if (atHand >= 0) {
                pile.add(atHand);
                if (pile.size() > 20) {
                    pile.remove(0);
                }
            }
            atHand = f;
        }

        int keep(int f, int value, boolean readBack) {
            fields.get(f).value = value;
            fields.get(f).heardBack = readBack;
            sent = false;
            last = f;
            boolean again = true;
            while (again) {
                again = false;
                for (int i = 0; i < fields.size(); i++) {
                    if (fields.get(i).value >= 0 && !asked(i)) {
                        fields.get(i).value = -1;
                        fields.get(i).heardBack = false;
                        fell++;
                        again = true;
                    }
                }
            }
            if (fields.get(last).value < 0) {
                last = -1;
            }
            if (atHand >= 0 && (f == atHand || !asked(atHand))) {
                come(next(atHand));
            }
            return 4;
        }

        boolean goOn() {
            boolean was = stopped;
            stopped = false;
            return was;
        }

        int part(Long meaning, int which) {
            if (meaning == null) {
                return -1;
            }
            return which == 0 ? (int) (meaning / STEP) : which == 1 ? (int) (meaning % STEP) : meanings.get(meaning);
        }

        int told(int what) {
            if (latest < 0 || what < 0 || what > 8) {
                return -1;
            }
            if (what == 0) {
                return latest;
            }
            if (what <= 3) {
                return part(first, what - 1);
            }
            if (what <= 6) {
                return part(second, what - 4);
            }
            if (what == 7) {
                return fell;
            }
            if (latest != 2 || first >= STEP || second >= STEP || fields.get(atHand).length == 0) {
                return 0;
            }
            String form = "%0" + fields.get(atHand).length + "d";
            String one = String.format(form, first);
            String two = String.format(form, second);
            int bits = 0;
            for (int i = 0; i < one.length(); i++) {
                if (one.charAt(i) != two.charAt(i)) {
                    bits += 1 << i;
                }
            }
            return bits;
        }

        int about(int what) {
            int open = 0;
            int unheard = 0;
            for (int f = 0; f < fields.size(); f++) {
                open += asked(f) && fields.get(f).value < 0 ? 1 : 0;
                unheard += fields.get(f).value >= 0 && !fields.get(f).heardBack ? 1 : 0;
            }
            int wait = waits.equals("value") ? 1 : waits.equals("which") ? 2 : 0;
            int[] all = {atHand, last, wait, open, stopped ? 1 : 0, Math.min(misses, 9), fields.size(), unheard,
                heard.size()};
            return what < 0 || what > 8 ? -1 : all[what];
        }

        int field(int f, int what) {
            if (f < 0 || f >= fields.size() || what < 0 || what > 7) {
                return -1;
            }
            Field field = fields.get(f);
            int[] all = {field.name, field.length, field.words.size(), asked(f) ? 1 : 0, field.value >= 0 ? 1 : 0,
                field.heardBack ? 1 : 0, field.skipped ? 1 : 0, field.value};
            return all[what];
        }

        int hearBack() {
            int count = 0;
            for (Field f : fields) {
                if (f.value >= 0 && !f.heardBack) {
                    f.heardBack = true;
                    count++;
                }
            }
            return count;
        }

        boolean send() {
            for (int f = 0; f < fields.size(); f++) {
                if (asked(f) && (fields.get(f).value < 0 || !fields.get(f).heardBack)) {
                    return false;
                }
            }
            boolean was = sent;
            sent = true;
            return !was;
        }
    }
}

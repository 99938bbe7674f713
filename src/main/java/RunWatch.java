import java.util.Arrays;

/** A process watched by joined rules over its signs; see README.md for how to use it. */
public final class RunWatch {
    public static final int BAD = -1, STATE = -2, FULL = -3, ALARM = -5, NONE = -9;

    private static final int SIGNS = 5;
    private static final int ALL_SIGNS = 31;
    private static final int MIDDLE_SIGN = 2;
    private static final int MOST_RULES = 3;
    private static final int ALL_RULES = 7;
    private static final int MOST_OF = 4;
    private static final int MOST_PAST = 6;
    private static final int PASTS = 64;
    private static final int TEN = 10;
    private static final int[] FIRST_CHANCES = {1, 2, 4, 2, 1};
    private static final int FIRST_SLACK = 1;
    private static final int MOST_SLACK = 2;
    private static final int FIRST_LIMIT = 4;
    private static final int MOST_LIMIT = 9;
    private static final int LAST_TIME = 99;
    private static final int MOST_ROWS = 40;
    private static final int LAST_LETTER = 255;
    private static final int MOST_LETTERS = 120;
    private static final int MOST_UNDONE = 6;
    private static final int IMAGES = 2;
    private static final int MOST_ODDS = 8;
    private static final int PRIME = 1000003;

    private final Text text;
    private final Reader reader;
    private final Sheet sheet;
    private final History history;
    private final Sheet[] images;
    private final boolean[] kept;
    private final Walk walk;
    private final Machine machine;
    private final Outlook outlook;
    private final Means means;
    private final Singles singles;

    public RunWatch() {
        reader = new Reader();
        text = reader.text;
        sheet = new Sheet();
        history = new History();
        images = new Sheet[IMAGES];
        for (int i = 0; i < IMAGES; i++) {
            images[i] = new Sheet();
        }
        kept = new boolean[IMAGES];
        walk = new Walk();
        machine = new Machine();
        outlook = new Outlook();
        means = new Means();
        singles = new Singles();
    }

    // ---- what is told

    public int type(int letter) {
        if (letter < 0 || letter > LAST_LETTER) {
            return BAD;
        }
        if (text.size >= MOST_LETTERS) {
            return FULL;
        }
        text.add(letter);
        return text.size;
    }

    public int clear() {
        int had = text.size;
        text.size = 0;
        return had;
    }

    public int tells() {
        int items = reader.read();
        if (items < 0) {
            return items;
        }
        history.note(sheet);
        sheet.plan.take(reader.plan);
        text.size = 0;
        goThrough();
        return items;
    }

    // ---- rows

    public int comes(int time, int sign) {
        if (time < 0 || time > LAST_TIME || !isSign(sign)) {
            return BAD;
        }
        Rows rows = sheet.rows;
        int place = rows.placeOf(time);
        if (isRow(place) && rows.times[place] == time) {
            return STATE;
        }
        if (rows.size >= MOST_ROWS) {
            return FULL;
        }
        history.note(sheet);
        rows.putIn(place, time, sign);
        goThrough();
        return place;
    }

    public int goes(int i) {
        Rows rows = sheet.rows;
        if (!isRow(i)) {
            return BAD;
        }
        int time = rows.times[i];
        history.note(sheet);
        rows.takeOut(i);
        goThrough();
        return time;
    }

    public int becomes(int i, int sign) {
        Rows rows = sheet.rows;
        if (!isRow(i) || !isSign(sign)) {
            return BAD;
        }
        int had = rows.signs[i];
        if (had == sign) {
            return STATE;
        }
        history.note(sheet);
        rows.signs[i] = sign;
        goThrough();
        return had;
    }

    public int undo() {
        if (history.size <= 0) {
            return STATE;
        }
        history.giveLatest(sheet);
        goThrough();
        return history.size;
    }

    // ---- asked

    public int rule(int r, int what) {
        Plan plan = sheet.plan;
        if (r < 0 || r >= plan.rules || r >= MOST_RULES) {
            return BAD;
        }
        switch (what) {
            case 0: return plan.least[r];
            case 1: return plan.of[r];
            case 2: return plan.set[r];
            default: return BAD;
        }
    }

    public int chance(int sign) {
        return isSign(sign) ? sheet.plan.chances[sign] : BAD;
    }

    public int row(int i, int what) {
        if (!isRow(i)) {
            return BAD;
        }
        switch (what) {
            case 0: return sheet.rows.times[i];
            case 1: return sheet.rows.signs[i];
            case 2: return walk.met[i];
            case 3: return fitted().stateBehind(walk.past[i]);
            case 4: return walk.up[i];
            case 5: return walk.down[i];
            case 6: return walk.signals[i];
            default: return BAD;
        }
    }

    public int alarm(int k) {
        return timeOfMark(walk.met, k);
    }

    public int signal(int k) {
        return timeOfMark(walk.signals, k);
    }

    // ---- the machine

    public int step(int state, int sign) {
        if (!isSign(sign) || state < 0 || state >= fitted().states || state >= PASTS) {
            return BAD;
        }
        return machine.steps[state * SIGNS + sign];
    }

    public int soonest(int k) {
        if (k < -1) {
            return BAD;
        }
        int now = stateNow();
        int away = machine.awayFrom(now);
        if (away == NONE || k >= away) {
            return NONE;
        }
        return k == -1 ? away : machine.signTowardsAlarm(now, k);
    }

    public int odds(int n, int what) {
        if (n < 0 || n > MOST_ODDS || what < 0 || what > 1) {
            return BAD;
        }
        outlook.reckon(machine, stateNow(), sheet.plan.chances, n);
        return what == 0 ? outlook.upper : outlook.lower;
    }

    public int mean() {
        int now = stateNow();
        means.fit(machine, sheet.plan);
        return means.known && isPast(now) ? means.numbers[now] : NONE;
    }

    public int same(int what) {
        if (what < 0 || what > 1) {
            return BAD;
        }
        if (!singles.known) {
            singles.search(sheet.rows, walk.met);
        }
        return what == 0 ? singles.size : singles.first;
    }

    // ---- images

    public int keep(int image) {
        if (image < 0 || image >= IMAGES) {
            return BAD;
        }
        images[image].take(sheet);
        kept[image] = true;
        return sheet.rows.size;
    }

    public int back(int image) {
        if (image < 0 || image >= IMAGES) {
            return BAD;
        }
        if (!kept[image]) {
            return STATE;
        }
        sheet.take(images[image]);
        history.forget();
        goThrough();
        return sheet.rows.size;
    }

    public int count(int what) {
        int last = sheet.rows.size - 1;
        switch (what) {
            case 0: return sheet.plan.rules;
            case 1: return sheet.rows.size;
            case 2: return fitted().states;
            case 3: return stateNow();
            case 4: return sheet.plan.slack;
            case 5: return sheet.plan.limit;
            case 6: return isRow(last) ? walk.up[last] : 0;
            case 7: return isRow(last) ? walk.down[last] : 0;
            case 8: return text.size;
            case 9: return history.size;
            default: return BAD;
        }
    }

    private static boolean isSign(int sign) {
        return sign >= 0 && sign < SIGNS;
    }

    /** Whether it can be the number of a past, or of a state: these are no more. */
    private static boolean isPast(int number) {
        return number >= 0 && number < PASTS;
    }

    private boolean isRow(int i) {
        return i >= 0 && i < sheet.rows.size && i < MOST_ROWS;
    }

    private void goThrough() {
        walk.through(sheet);
        singles.known = false;
    }

    private Machine fitted() {
        machine.fit(sheet.plan);
        return machine;
    }

    private int stateNow() {
        int last = sheet.rows.size - 1;
        int past = isRow(last) ? walk.past[last] : 0;
        machine.fit(sheet.plan);
        return machine.stateBehind(past);
    }

    /** How many rows are marked for k = -1, else the time of the k-th of them. */
    private int timeOfMark(int[] marks, int k) {
        if (k < -1) {
            return BAD;
        }
        int found = 0;
        for (int i = 0; i < sheet.rows.size && i < MOST_ROWS; i++) {
            if (marks[i] == 0) {
                continue;
            }
            if (found == k) {
                return sheet.rows.times[i];
            }
            found++;
        }
        return k == -1 ? found : NONE;
    }

    /** The text as it is typed, and the tokens that it is cut into. */
    private static final class Text {
        static final int END = 0, RULE = 1, CHANCE = 2, SUMS = 3, NUMBER = 4, SEMICOLON = 5, WRONG = 6;
        private static final int TOO_LARGE = 100;

        private final int[] letters = new int[MOST_LETTERS];
        int size = 0;
        private int place;
        private int tokens;
        private final int[] kinds = new int[MOST_LETTERS];
        private final int[] starts = new int[MOST_LETTERS];
        private final int[] values = new int[MOST_LETTERS];

        void add(int letter) {
            if (size < MOST_LETTERS) {
                letters[size] = letter;
                size++;
            }
        }

        int kindOf(int token) {
            return isToken(token) ? kinds[token] : END;
        }

        int valueOf(int token) {
            return isToken(token) ? values[token] : 0;
        }

        /** Behind the last token: the text's length. */
        int startOf(int token) {
            return isToken(token) ? starts[token] : size;
        }

        void cut() {
            place = 0;
            tokens = 0;
            for (int i = 0; i < MOST_LETTERS && place < size; i++) {
                if (letterAt(place) == ' ') {
                    place++;
                } else if (tokens < MOST_LETTERS) {
                    cutToken(tokens);
                    tokens++;
                }
            }
        }

        private void cutToken(int token) {
            int letter = letterAt(place);
            starts[token] = place;
            values[token] = 0;
            if (isSmall(letter)) {
                kinds[token] = passWord();
            } else if (isFigure(letter)) {
                values[token] = passNumber();
                kinds[token] = values[token] < TOO_LARGE ? NUMBER : WRONG;
            } else {
                kinds[token] = letter == ';' ? SEMICOLON : WRONG;
                place++;
            }
        }

        private int passWord() {
            int start = place;
            for (int i = 0; i < MOST_LETTERS && isSmall(letterAt(place)); i++) {
                place++;
            }
            if (isWord(start, "rule")) {
                return RULE;
            }
            if (isWord(start, "chance")) {
                return CHANCE;
            }
            return isWord(start, "sums") ? SUMS : WRONG;
        }

        private boolean isWord(int start, String word) {
            if (place - start != word.length()) {
                return false;
            }
            for (int i = 0; i < word.length(); i++) {
                if (letterAt(start + i) != word.charAt(i)) {
                    return false;
                }
            }
            return true;
        }

        /** A number that is written as none may be is too large, so that it is refused like one. */
        private int passNumber() {
            int start = place;
            int number = 0;
            for (int i = 0; i < MOST_LETTERS && isFigure(letterAt(place)); i++) {
                number = Math.min(TOO_LARGE, number * TEN + letterAt(place) - '0');
                place++;
            }
            boolean zeroAhead = letterAt(start) == '0' && place - start > 1;
            return zeroAhead ? TOO_LARGE : number;
        }

        private boolean isToken(int token) {
            return token >= 0 && token < tokens && token < MOST_LETTERS;
        }

        /** -1 behind the last letter, so that no row of letters goes on there. */
        private int letterAt(int at) {
            return at >= 0 && at < size && at < MOST_LETTERS ? letters[at] : -1;
        }

        private static boolean isSmall(int letter) {
            return letter >= 'a' && letter <= 'z';
        }

        private static boolean isFigure(int letter) {
            return letter >= '0' && letter <= '9';
        }
    }

    /** Reads a text into a plan of its own, which counts only if the whole text is sound. */
    private static final class Reader {
        final Text text = new Text();
        final Plan plan = new Plan();
        /** The token read last; where reading stops early, the one at fault. */
        private int token;
        private boolean chanceTold;
        private boolean sumsTold;

        /** How many items, or -10 less the fault. */
        int read() {
            text.cut();
            plan.becomeFirst();
            token = -1;
            chanceTold = false;
            sumsTold = false;
            for (int items = 0; items <= MOST_LETTERS; items++) {
                int kind = nextKind();
                if (kind == Text.END) {
                    return items;
                }
                if (!isItem(kind)) {
                    break;
                }
            }
            return -TEN - text.startOf(token);
        }

        private boolean isItem(int kind) {
            switch (kind) {
                case Text.RULE: return isRule() && nextKind() == Text.SEMICOLON;
                case Text.CHANCE: return areChances() && nextKind() == Text.SEMICOLON;
                case Text.SUMS: return areSums() && nextKind() == Text.SEMICOLON;
                default: return false;
            }
        }

        private boolean isRule() {
            if (plan.rules >= MOST_RULES || !isNumber(1, MOST_OF)) {
                return false;
            }
            int least = text.valueOf(token);
            int room = MOST_PAST - plan.pastWidth();
            if (!isNumber(least, Math.min(MOST_OF, room + 1))) {
                return false;
            }
            int of = text.valueOf(token);
            if (!isNumber(1, ALL_SIGNS)) {
                return false;
            }
            plan.addRule(least, of, text.valueOf(token));
            return true;
        }

        private boolean areChances() {
            if (chanceTold) {
                return false;
            }
            chanceTold = true;
            int left = TEN;
            for (int sign = 0; sign < SIGNS; sign++) {
                if (!isNumber(0, TEN)) {
                    return false;
                }
                plan.chances[sign] = text.valueOf(token);
                left -= plan.chances[sign];
            }
            // Only the last chance answers for the sum, even if those ahead of it are above 10 already.
            return left == 0;
        }

        private boolean areSums() {
            if (sumsTold) {
                return false;
            }
            sumsTold = true;
            if (!isNumber(0, MOST_SLACK)) {
                return false;
            }
            plan.slack = text.valueOf(token);
            if (!isNumber(1, MOST_LIMIT)) {
                return false;
            }
            plan.limit = text.valueOf(token);
            return true;
        }

        private boolean isNumber(int lowest, int highest) {
            int kind = nextKind();
            int value = text.valueOf(token);
            return kind == Text.NUMBER && value >= lowest && value <= highest;
        }

        private int nextKind() {
            token++;
            return text.kindOf(token);
        }
    }

    /** What a text tells: rules, chances, slack and limit. */
    private static final class Plan {
        int rules;
        final int[] least = new int[MOST_RULES];
        final int[] of = new int[MOST_RULES];
        final int[] set = new int[MOST_RULES];
        final int[] chances = new int[SIGNS];
        int slack;
        int limit;

        Plan() {
            becomeFirst();
        }

        void becomeFirst() {
            rules = 0;
            System.arraycopy(FIRST_CHANCES, 0, chances, 0, SIGNS);
            slack = FIRST_SLACK;
            limit = FIRST_LIMIT;
        }

        void take(Plan other) {
            rules = other.rules;
            System.arraycopy(other.least, 0, least, 0, MOST_RULES);
            System.arraycopy(other.of, 0, of, 0, MOST_RULES);
            System.arraycopy(other.set, 0, set, 0, MOST_RULES);
            System.arraycopy(other.chances, 0, chances, 0, SIGNS);
            slack = other.slack;
            limit = other.limit;
        }

        boolean hasRulesOf(Plan other) {
            if (rules != other.rules) {
                return false;
            }
            for (int r = 0; r < rules && r < MOST_RULES; r++) {
                if (least[r] != other.least[r] || of[r] != other.of[r] || set[r] != other.set[r]) {
                    return false;
                }
            }
            return true;
        }

        boolean hasChancesOf(Plan other) {
            for (int sign = 0; sign < SIGNS; sign++) {
                if (chances[sign] != other.chances[sign]) {
                    return false;
                }
            }
            return true;
        }

        /** How many bits a past has: of each rule, whether each of the last ones but this one is in its set. */
        int pastWidth() {
            int width = 0;
            for (int r = 0; r < rules && r < MOST_RULES; r++) {
                width += of[r] - 1;
            }
            return width;
        }

        void addRule(int leastOfThem, int ofLast, int inSet) {
            if (rules < MOST_RULES) {
                least[rules] = leastOfThem;
                of[rules] = ofLast;
                set[rules] = inSet;
                rules++;
            }
        }

        /** The rules met by a sign behind a past (never 0 then), or else 8 times the past behind it. */
        int pass(int past, int sign) {
            int met = 0;
            int behind = 0;
            int shift = 0;
            for (int r = 0; r < rules && r < MOST_RULES; r++) {
                int width = of[r] - 1;
                int mask = (1 << width) - 1;
                int window = (past >> shift & mask) << 1 | set[r] >> sign & 1;
                if (Integer.bitCount(window) >= least[r]) {
                    met |= 1 << r;
                }
                behind |= (window & mask) << shift;
                shift += width;
            }
            return met != 0 ? met : behind << MOST_RULES;
        }
    }

    /** Signs by times. */
    private static final class Rows {
        int size = 0;
        final int[] times = new int[MOST_ROWS];
        final int[] signs = new int[MOST_ROWS];

        /** How many rows are earlier. */
        int placeOf(int time) {
            int place = 0;
            while (place < size && place < MOST_ROWS && times[place] < time) {
                place++;
            }
            return place;
        }

        void putIn(int place, int time, int sign) {
            if (size >= MOST_ROWS || place < 0 || place > size) {
                return;
            }
            for (int i = size; i > place; i--) {
                times[i] = times[i - 1];
                signs[i] = signs[i - 1];
            }
            times[place] = time;
            signs[place] = sign;
            size++;
        }

        void takeOut(int place) {
            if (place < 0 || place >= size) {
                return;
            }
            size--;
            for (int i = place; i < size && i + 1 < MOST_ROWS; i++) {
                times[i] = times[i + 1];
                signs[i] = signs[i + 1];
            }
        }

        void take(Rows other) {
            size = other.size;
            System.arraycopy(other.times, 0, times, 0, MOST_ROWS);
            System.arraycopy(other.signs, 0, signs, 0, MOST_ROWS);
        }
    }

    /** All that can be undone or kept as an image. */
    private static final class Sheet {
        final Plan plan = new Plan();
        final Rows rows = new Rows();

        void take(Sheet other) {
            plan.take(other.plan);
            rows.take(other.rows);
        }
    }

    /** The latest sheets, in a ring, so that the oldest one is the one that is lost. */
    private static final class History {
        private final Sheet[] sheets = new Sheet[MOST_UNDONE];
        private int next = 0;
        int size = 0;

        History() {
            for (int i = 0; i < MOST_UNDONE; i++) {
                sheets[i] = new Sheet();
            }
        }

        void note(Sheet sheet) {
            sheets[Math.floorMod(next, MOST_UNDONE)].take(sheet);
            next++;
            size = Math.min(size + 1, MOST_UNDONE);
        }

        void giveLatest(Sheet sheet) {
            if (size <= 0) {
                return;
            }
            next--;
            size--;
            sheet.take(sheets[Math.floorMod(next, MOST_UNDONE)]);
        }

        void forget() {
            size = 0;
        }
    }

    /** What was found at each row when all were gone through. */
    private static final class Walk {
        final int[] met = new int[MOST_ROWS];
        final int[] past = new int[MOST_ROWS];
        final int[] up = new int[MOST_ROWS];
        final int[] down = new int[MOST_ROWS];
        final int[] signals = new int[MOST_ROWS];

        void through(Sheet sheet) {
            ruleByRule(sheet.plan, sheet.rows);
            sumBySum(sheet.plan, sheet.rows);
        }

        private void ruleByRule(Plan plan, Rows rows) {
            int behind = 0;
            for (int i = 0; i < rows.size && i < MOST_ROWS; i++) {
                int passed = plan.pass(behind, rows.signs[i]);
                met[i] = passed & ALL_RULES;
                behind = passed >> MOST_RULES;
                past[i] = behind;
            }
        }

        private void sumBySum(Plan plan, Rows rows) {
            int upper = 0;
            int lower = 0;
            for (int i = 0; i < rows.size && i < MOST_ROWS; i++) {
                int deviation = rows.signs[i] - MIDDLE_SIGN;
                upper = Math.max(0, upper + deviation - plan.slack);
                lower = Math.max(0, lower - deviation - plan.slack);
                signals[i] = 0;
                if (upper > plan.limit || lower > plan.limit) {
                    signals[i] = 1;
                    upper = 0;
                    lower = 0;
                }
                up[i] = upper;
                down[i] = lower;
            }
        }
    }

    /** All rules joined, in as few states as can be; built anew only for other rules. */
    private static final class Machine {
        private final Plan plan = new Plan();
        private int pasts;
        private final int[] leads = new int[PASTS * SIGNS];
        private final int[] part = new int[PASTS];
        private final int[] finer = new int[PASTS];
        private final int[] keys = new int[PASTS];
        private final int[] stateOfPart = new int[PASTS];
        private final int[] pastOfState = new int[PASTS];
        int states;
        final int[] steps = new int[PASTS * SIGNS];
        private final int[] away = new int[PASTS];

        Machine() {
            build();
        }

        void fit(Plan wanted) {
            if (!plan.hasRulesOf(wanted)) {
                plan.take(wanted);
                build();
            }
        }

        int stateBehind(int past) {
            int ofPart = isPast(past) ? part[past] : 0;
            // Only a past that no row of signs leads to has no state.
            return isPast(ofPart) ? Math.max(0, stateOfPart[ofPart]) : 0;
        }

        /** How many signs an alarm is away; NONE if none can come. */
        int awayFrom(int state) {
            return isPast(state) ? away[state] : NONE;
        }

        private void build() {
            pasts = Math.min(PASTS, 1 << plan.pastWidth());
            lead();
            Arrays.fill(part, 0);
            int parts = 1;
            for (int round = 0; round < PASTS; round++) {
                int more = split();
                if (more == parts) {
                    break;
                }
                parts = more;
            }
            numberStates();
            measure();
        }

        private void lead() {
            for (int past = 0; past < pasts; past++) {
                for (int sign = 0; sign < SIGNS; sign++) {
                    int passed = plan.pass(past, sign);
                    boolean alarm = (passed & ALL_RULES) != 0;
                    leads[past * SIGNS + sign] = alarm ? ALARM : passed >> MOST_RULES;
                }
            }
        }

        /** Puts apart the pasts that signs lead into different parts: how many parts there are then. */
        private int split() {
            int parts = 0;
            for (int past = 0; past < pasts; past++) {
                int key = keyOf(past);
                int found = 0;
                while (found < parts && keys[found] != key) {
                    found++;
                }
                if (found == parts && parts < PASTS) {
                    keys[parts] = key;
                    parts++;
                }
                finer[past] = found;
            }
            System.arraycopy(finer, 0, part, 0, pasts);
            return parts;
        }

        /** Where the five signs lead, as five places of 65 (a part, or an alarm): an int can hold that. */
        private int keyOf(int past) {
            int key = 0;
            for (int sign = 0; sign < SIGNS; sign++) {
                int to = leads[past * SIGNS + sign];
                key = key * (PASTS + 1) + (isPast(to) ? part[to] : PASTS);
            }
            return key;
        }

        private void numberStates() {
            Arrays.fill(stateOfPart, -1);
            states = 0;
            stateOf(0);
            for (int state = 0; state < states && state < PASTS; state++) {
                int past = pastOfState[state];
                for (int sign = 0; sign < SIGNS && isPast(past); sign++) {
                    int to = leads[past * SIGNS + sign];
                    steps[state * SIGNS + sign] = isPast(to) ? stateOf(to) : ALARM;
                }
            }
        }

        /** The number of a past's state, the next one if it is come to for the first time. */
        private int stateOf(int past) {
            int ofPart = isPast(past) ? part[past] : 0;
            if (!isPast(ofPart)) {
                return 0;
            }
            if (stateOfPart[ofPart] < 0 && states < PASTS) {
                stateOfPart[ofPart] = states;
                pastOfState[states] = past;
                states++;
            }
            return stateOfPart[ofPart];
        }

        /** Which states are one sign away from an alarm, then which are two, and so on. */
        private void measure() {
            Arrays.fill(away, NONE);
            boolean changed = true;
            for (int far = 1; far <= PASTS && changed; far++) {
                changed = false;
                for (int state = 0; state < states && state < PASTS; state++) {
                    if (away[state] == NONE && signTo(state, far - 1) != NONE) {
                        away[state] = far;
                        changed = true;
                    }
                }
            }
        }

        /** The first sign behind which an alarm is so far away, 0 being the alarm itself. */
        private int signTo(int state, int far) {
            for (int sign = 0; sign < SIGNS && isPast(state); sign++) {
                int to = steps[state * SIGNS + sign];
                int left = isPast(to) ? away[to] : 0;
                if (left == far) {
                    return sign;
                }
            }
            return NONE;
        }

        /** The k-th sign of the first shortest row to an alarm. */
        int signTowardsAlarm(int from, int k) {
            int state = from;
            int sign = NONE;
            for (int i = 0; i <= k && i < PASTS; i++) {
                sign = signTo(state, awayFrom(state) - 1);
                if (!isPast(state) || !isSign(sign)) {
                    return NONE;
                }
                state = steps[state * SIGNS + sign];
            }
            return sign;
        }
    }

    /** Odds of an alarm within so many signs, as a fraction in least terms. */
    private static final class Outlook {
        private int[] weights = new int[PASTS];
        private int[] next = new int[PASTS];
        int upper;
        int lower;

        void reckon(Machine machine, int now, int[] chances, int n) {
            Arrays.fill(weights, 0);
            if (isPast(now)) {
                weights[now] = 1;
            }
            upper = 0;
            lower = 1;
            for (int i = 0; i < n && i < MOST_ODDS; i++) {
                upper = upper * TEN + spread(machine, chances);
                lower *= TEN;
            }
            int divisor = commonDivisor(upper, lower);
            if (divisor > 1) {
                upper /= divisor;
                lower /= divisor;
            }
        }

        /** One sign more: the weight that goes into an alarm by it. */
        private int spread(Machine machine, int[] chances) {
            int alarmed = 0;
            Arrays.fill(next, 0);
            for (int state = 0; state < machine.states && state < PASTS; state++) {
                if (weights[state] == 0) {
                    continue;
                }
                for (int sign = 0; sign < SIGNS; sign++) {
                    int weight = weights[state] * chances[sign];
                    int to = machine.steps[state * SIGNS + sign];
                    if (isPast(to)) {
                        next[to] += weight;
                    } else {
                        alarmed += weight;
                    }
                }
            }
            int[] old = weights;
            weights = next;
            next = old;
            return alarmed;
        }

        private static int commonDivisor(int first, int second) {
            int a = first;
            int b = second;
            for (int i = 0; i < 64 && b != 0; i++) {
                int left = a % b;
                a = b;
                b = left;
            }
            return a;
        }
    }

    /** The numbers of MEAN, found by elimination; solved anew only for other rules or chances. */
    private static final class Means {
        private final Plan plan = new Plan();
        private boolean solved = false;
        private int size;
        private final int[][] lines = new int[PASTS][PASTS + 1];
        private final int[] columns = new int[PASTS + 1];
        final int[] numbers = new int[PASTS];
        /** Whether there is just one number for each state. */
        boolean known = false;

        void fit(Machine machine, Plan wanted) {
            if (solved && plan.hasRulesOf(wanted) && plan.hasChancesOf(wanted)) {
                return;
            }
            plan.take(wanted);
            solved = true;
            setUp(machine);
            known = eliminate();
            if (known) {
                fillIn();
            }
        }

        private void setUp(Machine machine) {
            size = Math.min(PASTS, machine.states);
            for (int state = 0; state < size; state++) {
                int[] line = lines[state];
                Arrays.fill(line, 0);
                line[state] = TEN;
                line[size] = TEN;
                for (int sign = 0; sign < SIGNS; sign++) {
                    int to = machine.steps[state * SIGNS + sign];
                    if (isPast(to)) {
                        line[to] = Math.floorMod(line[to] - plan.chances[sign], PRIME);
                    }
                }
            }
        }

        /** From the last state to the first: each line then tells its number by those of earlier states alone. */
        private boolean eliminate() {
            for (int pivot = size - 1; pivot >= 0; pivot--) {
                if (!bringUp(pivot)) {
                    return false;
                }
                int used = makeOne(pivot);
                for (int other = 0; other < pivot; other++) {
                    if (lines[other][pivot] != 0) {
                        takeAway(pivot, other, used);
                    }
                }
            }
            return true;
        }

        /** A line that has something at the pivot comes to its place; false if no line is left that has. */
        private boolean bringUp(int pivot) {
            for (int other = pivot; other >= 0; other--) {
                if (lines[other][pivot] != 0) {
                    int[] line = lines[other];
                    lines[other] = lines[pivot];
                    lines[pivot] = line;
                    return true;
                }
            }
            return false;
        }

        /** The pivot's line is divided by what it has there: how many of its other columns are not 0. */
        private int makeOne(int pivot) {
            int[] line = lines[pivot];
            long inverse = inverseOf(line[pivot]);
            int used = 0;
            for (int column = 0; column <= size; column++) {
                if (line[column] != 0) {
                    line[column] = (int) (line[column] * inverse % PRIME);
                    if (column != pivot) {
                        columns[used] = column;
                        used++;
                    }
                }
            }
            return used;
        }

        private void takeAway(int pivot, int other, int used) {
            int[] from = lines[other];
            int[] line = lines[pivot];
            long times = PRIME - from[pivot];
            for (int i = 0; i < used && i <= size; i++) {
                int column = columns[i];
                if (column >= 0 && column <= size) {
                    from[column] = (int) ((from[column] + times * line[column]) % PRIME);
                }
            }
            from[pivot] = 0;
        }

        private void fillIn() {
            for (int state = 0; state < size; state++) {
                long number = lines[state][size];
                for (int other = 0; other < state; other++) {
                    long coefficient = lines[state][other];
                    if (coefficient != 0) {
                        number = (number + (PRIME - coefficient) * numbers[other]) % PRIME;
                    }
                }
                numbers[state] = (int) number;
            }
        }

        /** By the power of the prime less 2. */
        private static long inverseOf(int number) {
            long inverse = 1;
            long power = number;
            for (int left = PRIME - 2; left > 0; left >>= 1) {
                if ((left & 1) != 0) {
                    inverse = inverse * power % PRIME;
                }
                power = power * power % PRIME;
            }
            return inverse;
        }
    }

    /** Single rules that would give alarms at just the same rows. */
    private static final class Singles {
        boolean known = false;
        int size;
        int first;
        /** The most of the last ones in a set at a row without an alarm, the fewest at one with an alarm. */
        private int most;
        private int fewest;

        void search(Rows rows, int[] met) {
            known = true;
            size = 0;
            first = NONE;
            for (int of = 1; of <= MOST_OF; of++) {
                for (int set = 1; set <= ALL_SIGNS; set++) {
                    weigh(rows, met, of, set);
                    // M must be above what stays without an alarm, and no more than what each alarm has.
                    int lowest = most + 1;
                    if (lowest <= fewest) {
                        size += fewest - most;
                        int name = 1000 * of + 100 * lowest + set;
                        first = first == NONE ? name : Math.min(first, name);
                    }
                }
            }
        }

        private void weigh(Rows rows, int[] met, int of, int set) {
            int mask = (1 << of) - 1;
            int window = 0;
            most = 0;
            fewest = of;
            for (int i = 0; i < rows.size && i < MOST_ROWS && most < fewest; i++) {
                window = (window << 1 | set >> rows.signs[i] & 1) & mask;
                int in = Integer.bitCount(window);
                if (met[i] == 0) {
                    most = Math.max(most, in);
                } else {
                    fewest = Math.min(fewest, in);
                    window = 0;
                }
            }
        }
    }
}

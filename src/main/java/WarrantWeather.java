import java.util.Arrays;

/** Weather by warrant: an office that decrees whether a day is wet, and what folk do by it. */
public final class WarrantWeather {
    public static final int NONE = -1;

    private static final int DAYS = 30;
    private static final int PROVINCES = 4;
    private static final int SKIES = 10;
    private static final int WET_FROM = 5;
    private static final int MOST_FOLK = 12;
    private static final int MOST_TEXTS = 4;
    private static final int MOST_BYTES = 300;
    private static final int MOST_STEPS = 60;
    private static final int MOST_PLANNED = 10;
    private static final int MOST_OPEN = 8;
    private static final int MOST_NUMBER = 9999;
    private static final int MOST_VALUE = 1000000;
    private static final int BLANK = 32;
    private static final int NEW_LINE = 10;

    private static final int NO_GAIN = -100000;
    private static final int NO_SUM = -100000000;
    private static final int NOTHING_ABOUT = -2;

    private static final int FAULT_PLACE = 1;
    private static final int FAULT_NUMBER = 2;
    private static final int FAULT_OPEN = 3;
    private static final int FAULT_AGAIN = 4;
    private static final int FAULT_NAME = 5;

    /** The words in the order of their kinds, a blank behind each: CLAUSES, joints, NAMES. */
    private static final String WORDS =
        "warrant does gain fine appeal toll or and not day province last seen sky decree trade fear act wet hats mine others ";

    private static final int WARRANT = 0;
    private static final int DOES = 1;
    private static final int GAIN = 2;
    private static final int FINE = 3;
    private static final int APPEAL = 4;
    private static final int TOLL = 5;
    private static final int CLAUSES = 6;
    private static final int OR = 6;
    private static final int AND = 7;
    private static final int NOT = 8;
    private static final int DAY = 9;
    private static final int PROVINCE = 10;
    private static final int LAST = 11;
    private static final int SEEN = 12;
    private static final int SKY = 13;
    private static final int DECREE = 14;
    private static final int TRADE = 15;
    private static final int FEAR = 16;
    private static final int ACT = 17;
    private static final int WET = 18;
    private static final int HATS = 19;
    private static final int MINE = 20;
    private static final int OTHERS = 21;
    private static final int NAMES = 13;
    private static final int LESS = 22;
    private static final int LESS_OR_LIKE = 23;
    private static final int MORE = 24;
    private static final int MORE_OR_LIKE = 25;
    private static final int LIKE = 26;
    private static final int UNLIKE = 27;
    private static final int PLUS = 28;
    private static final int MINUS = 29;
    private static final int TIMES = 30;
    private static final int OVER = 31;
    private static final int OPEN = 32;
    private static final int CLOSE = 33;
    private static final int SEMICOLON = 34;
    private static final int NUMBER = 35;
    private static final int NO_TOKEN = 36;
    private static final int END = 37;
    private static final int NEGATE = 38;

    /** For each NAME from DAY on the CLAUSES that it is of: bit 0 warrant to bit 5 toll. */
    private static final int[] NAME_IS_OF = {
        0b111111, 0b111111, 0b000001, 0b000001, 0b010111, 0b011110, 0b011110,
        0b011110, 0b001100, 0b000100, 0b010000, 0b100000, 0b100000,
    };

    private final Rolls now;
    private final Rolls kept;
    private final Tape tape;
    private final Reader reader;
    private final Shelf shelf;
    private final Court court;
    private final Planner planner;
    private final Council council;
    private final Song song;

    public WarrantWeather() {
        now = new Rolls();
        kept = new Rolls();
        tape = new Tape();
        shelf = new Shelf(now);
        reader = new Reader(shelf.blank);
        court = new Court(now, shelf);
        planner = new Planner(now, court);
        council = new Council(now, court);
        song = new Song();
    }

    public int folk(int province, int trade, int fear) {
        if (!within(province, PROVINCES) || !within(trade, 10) || !within(fear, 10)) {
            return NONE;
        }
        return now.enrol(province, trade, fear);
    }

    public boolean sky(int day, int s) {
        if (!within(day, DAYS) || !within(s, SKIES)) {
            return false;
        }
        now.skies[day] = s;
        return true;
    }

    public int skies(int seed) {
        if (!within(seed, 10000)) {
            return NONE;
        }
        int x = seed * 11 + 7;
        for (int day = 0; day < DAYS; day++) {
            now.skies[day] = x % 10;
            x = (x * 233 + 61) % 30139;
        }
        return now.wetDays();
    }

    public boolean decree(int day, int province, boolean wet) {
        if (!within(day, DAYS) || !within(province, PROVINCES)) {
            return false;
        }
        now.stamp(day, province, wet ? 1 : 0);
        return true;
    }

    public boolean chance(int s, int c) {
        if (!within(s, SKIES) || !within(c, 10)) {
            return false;
        }
        now.chances[s] = c;
        return true;
    }

    public boolean ruin(int r) {
        if (!within(r, 10000)) {
            return false;
        }
        now.ruinAt = r;
        return true;
    }

    public int feed(int a, int b, int c, int d, int e) {
        if (tape.count + 20 > MOST_BYTES) {
            return NONE;
        }
        tape.put(a);
        tape.put(b);
        tape.put(c);
        tape.put(d);
        tape.put(e);
        return tape.count;
    }

    public int end(int n) {
        if (n < 0 || n > tape.count) {
            return NONE;
        }
        tape.count = n;
        return n;
    }

    public int text() {
        Law law = shelf.at(now.texts);
        if (law == null) {
            return NONE;
        }
        boolean sound = reader.read(tape, law);
        tape.count = 0;
        if (!sound) {
            return NONE;
        }
        now.texts++;
        return now.texts - 1;
    }

    public int fault(int what) {
        if (!reader.hasRead) {
            return NONE;
        }
        if (what == 0) {
            return reader.faultKind;
        }
        return what == 1 ? reader.faultAt : NONE;
    }

    public boolean by(int text) {
        if (text != NONE && !within(text, now.texts)) {
            return false;
        }
        now.ruling = text;
        return true;
    }

    public int warrant(int from, int to) {
        if (!areDays(from, to) || !shelf.ruling().has(WARRANT)) {
            return NONE;
        }
        int turned = 0;
        for (int day = from; day <= to; day++) {
            for (int province = 0; province < PROVINCES; province++) {
                if (now.stamp(day, province, court.warrantFor(day, province))) {
                    turned++;
                }
            }
        }
        return turned;
    }

    public int letGo() {
        Law law = shelf.ruling();
        if (!law.has(WARRANT)) {
            return NONE;
        }
        return law.asks(WARRANT, SKY) ? 1 : 0;
    }

    public int undo() {
        return now.takeBack();
    }

    public int of(int day, int province, int what) {
        if (!within(day, DAYS) || !within(province, PROVINCES)) {
            return NONE;
        }
        switch (what) {
            case 0:
                return now.skies[day];
            case 1:
                return now.decreeOf(day, province);
            case 2:
                court.sitAsItIs(day, province);
                return court.hats;
            default:
                return NONE;
        }
    }

    public int on(int who, int day, int what) {
        if (!within(who, now.count) || !within(day, DAYS)) {
            return NONE;
        }
        court.sitAsItIs(day, now.homeOf(who));
        switch (what) {
            case 0:
                return court.actOf(who);
            case 1:
                return court.fineOf(who);
            case 2:
                return court.appealOf(who);
            default:
                return NONE;
        }
    }

    public int gain(int who, int day, boolean paper) {
        if (!within(who, now.count) || !within(day, DAYS)) {
            return NO_GAIN;
        }
        court.sitAsItIs(day, now.homeOf(who));
        return court.gainOf(who, paper);
    }

    public int sum(int who, int from, int to, boolean paper) {
        if (who != NONE && !within(who, now.count) || !areDays(from, to)) {
            return NO_SUM;
        }
        return court.tally(who, from, to, paper);
    }

    public int ruined(int i) {
        court.tally(NONE, 0, DAYS - 1, false);
        int counted = 0;
        for (int who = 0; who < now.count; who++) {
            if (court.totalOf(who) < -now.ruinAt) {
                if (counted == i) {
                    return who;
                }
                counted++;
            }
        }
        return i == NONE ? counted : NONE;
    }

    public int led(int who, int what) {
        if (!within(who, now.count) || !within(what, 2)) {
            return NONE;
        }
        int led = NONE;
        int most = 0;
        for (int day = 0; day < DAYS; day++) {
            int more = court.moreByOther(who, day);
            if (more > most) {
                most = more;
                led = day;
            }
        }
        if (led == NONE) {
            return NONE;
        }
        return what == 0 ? led : most;
    }

    public int odds(int day, int province, int what) {
        if (!within(day, DAYS) || !within(province, PROVINCES) || !within(what, 2)) {
            return NONE;
        }
        court.sitAsItIs(day, province);
        int wet = 0;
        int all = 0;
        for (int s = 0; s < SKIES; s++) {
            if (court.allDoAlike(s)) {
                all += now.chances[s];
                wet += s >= WET_FROM ? now.chances[s] : 0;
            }
        }
        if (all == 0) {
            return NONE;
        }
        int common = commonOf(all, wet);
        return (what == 0 ? wet : all) / Math.max(1, common);
    }

    public int plan(int province, int from, int n, int i) {
        if (!within(province, PROVINCES) || !within(from, DAYS)
                || n < 1 || n > MOST_PLANNED || from + n > DAYS) {
            return NO_SUM;
        }
        if (i != NONE && !within(i, n)) {
            return NO_SUM;
        }
        planner.draw(province, from, n);
        return i == NONE ? planner.best : planner.bestPath >> i & 1;
    }

    public int found(int province, int what) {
        if (!within(province, PROVINCES) || !within(what, 2)) {
            return NONE;
        }
        for (int day = 1; day < DAYS; day++) {
            for (int earlier = 0; earlier < day; earlier++) {
                if (now.ruleKey(day, province) == now.ruleKey(earlier, province)
                        && now.decreeOf(day, province) != now.decreeOf(earlier, province)) {
                    return what == 0 ? day : earlier;
                }
            }
        }
        return NONE;
    }

    public int even(int day, int i) {
        if (!within(day, DAYS) || i < NONE) {
            return NONE;
        }
        council.weigh(day);
        int counted = 0;
        for (int stamps = 0; stamps < 1 << PROVINCES; stamps++) {
            if (council.isEven(stamps)) {
                if (counted == i) {
                    return stamps;
                }
                counted++;
            }
        }
        return i == NONE ? counted : NONE;
    }

    public int flood(int i) {
        int counted = 0;
        for (int day = 0; day < DAYS; day++) {
            if (now.skies[day] < WET_FROM && now.wetDecreesOn(day) == PROVINCES) {
                if (counted == i) {
                    return day;
                }
                counted++;
            }
        }
        return i == NONE ? counted : NONE;
    }

    public int reform(int what) {
        if (!within(what, 2)) {
            return NONE;
        }
        Law law = shelf.ruling();
        int asItIs = court.tally(NONE, 0, DAYS - 1, false);
        int best = NONE;
        int most = 0;
        for (int i = 0; i < law.clauses; i++) {
            int clause = law.clauseAt(i);
            court.leftOut = clause;
            // No GAIN goes by warrant or toll: a tally without them would be the same.
            boolean same = clause == WARRANT || clause == TOLL;
            int more = same ? 0 : court.tally(NONE, 0, DAYS - 1, false) - asItIs;
            if (more > most) {
                most = more;
                best = i;
            }
        }
        court.leftOut = NONE;
        if (best == NONE) {
            return NONE;
        }
        return what == 0 ? best : most;
    }

    public int sing(int day, int key) {
        if (!songFits(day, key)) {
            return NONE;
        }
        for (int k = 0; k < song.words && within(day + k, DAYS); k++) {
            now.skies[day + k] = song.skyOf(k, key);
        }
        tape.count = 0;
        return song.words;
    }

    public int heard(int day, int key) {
        if (!songFits(day, key)) {
            return NONE;
        }
        int alike = 0;
        for (int k = 0; k < song.words && within(day + k, DAYS); k++) {
            if (now.skies[day + k] == song.skyOf(k, key)) {
                alike++;
            }
        }
        return alike;
    }

    public int image() {
        kept.takeOver(now);
        return now.count;
    }

    public int back() {
        now.takeOver(kept);
        return now.count;
    }

    public int about(int what) {
        if (what >= 10 && what < 10 + SKIES) {
            return now.chances[what - 10];
        }
        if (what >= 20 && what < 20 + now.count) {
            return now.entryOf(what - 20);
        }
        switch (what) {
            case 0:
                return now.count;
            case 1:
                return now.ruinAt;
            case 2:
                return now.texts;
            case 3:
                return now.ruling;
            case 4:
                return now.stepCount;
            case 5:
                return tape.count;
            case 6:
                return now.wetDays();
            case 7:
                return now.wetDecrees();
            default:
                return NOTHING_ABOUT;
        }
    }

    private boolean songFits(int day, int key) {
        return within(day, DAYS) && within(key, 10) && song.read(tape) && day + song.words <= DAYS;
    }

    private static boolean within(int value, int bound) {
        return value >= 0 && value < bound;
    }

    private static boolean areDays(int from, int to) {
        return from >= 0 && from <= to && to < DAYS;
    }

    private static int between(int value, int least, int most) {
        return Math.max(least, Math.min(most, value));
    }

    private static int commonOf(int a, int b) {
        int big = a;
        int small = b;
        // Euclid's steps on numbers up to 90 end long before this bound.
        for (int turn = 0; turn < 100 && small != 0; turn++) {
            int left = big % small;
            big = small;
            small = left;
        }
        return big;
    }

    /** All that THE IMAGE keeps, but for the TEXTS' laws: those below texts never change. */
    private static final class Rolls {
        final int[] home = new int[MOST_FOLK];
        final int[] trade = new int[MOST_FOLK];
        final int[] fear = new int[MOST_FOLK];
        final int[] skies = new int[DAYS];
        final int[] decrees = new int[DAYS * PROVINCES];
        final int[] chances = new int[SKIES];
        final int[] steps = new int[MOST_STEPS];
        int count;
        int ruinAt;
        int texts;
        int ruling = NONE;
        int stepCount;
        int nextStep;

        Rolls() {
            Arrays.fill(chances, 1);
        }

        void takeOver(Rolls other) {
            System.arraycopy(other.home, 0, home, 0, MOST_FOLK);
            System.arraycopy(other.trade, 0, trade, 0, MOST_FOLK);
            System.arraycopy(other.fear, 0, fear, 0, MOST_FOLK);
            System.arraycopy(other.skies, 0, skies, 0, DAYS);
            System.arraycopy(other.decrees, 0, decrees, 0, DAYS * PROVINCES);
            System.arraycopy(other.chances, 0, chances, 0, SKIES);
            System.arraycopy(other.steps, 0, steps, 0, MOST_STEPS);
            count = other.count;
            ruinAt = other.ruinAt;
            texts = other.texts;
            ruling = other.ruling;
            stepCount = other.stepCount;
            nextStep = other.nextStep;
        }

        int enrol(int province, int ofTrade, int ofFear) {
            if (!within(count, MOST_FOLK)) {
                return NONE;
            }
            home[count] = province;
            trade[count] = ofTrade;
            fear[count] = ofFear;
            count++;
            return count - 1;
        }

        int homeOf(int who) {
            return within(who, MOST_FOLK) ? home[who] : 0;
        }

        int entryOf(int who) {
            return within(who, MOST_FOLK) ? 100 * home[who] + 10 * trade[who] + fear[who] : 0;
        }

        int skyOf(int day) {
            return within(day, DAYS) ? skies[day] : 0;
        }

        int decreeOf(int day, int province) {
            int cell = day * PROVINCES + province;
            return within(cell, decrees.length) ? decrees[cell] : 0;
        }

        /** The DECREE of the DAY ahead: of DAY 0 its cell would be below 0, and that is 0. */
        int lastOf(int day, int province) {
            return decreeOf(day - 1, province);
        }

        int seenOn(int day) {
            return skyOf(day - 1);
        }

        /** What a clerk may go by: DAYS with the same last and seen have the same key. */
        int ruleKey(int day, int province) {
            return lastOf(day, province) * SKIES + seenOn(day);
        }

        /** Sets a DECREE and keeps the STEP: whether it came to be another one. */
        boolean stamp(int day, int province, int decree) {
            int cell = day * PROVINCES + province;
            if (!within(cell, decrees.length) || decrees[cell] == decree) {
                return false;
            }
            decrees[cell] = decree;
            if (within(nextStep, MOST_STEPS)) {
                steps[nextStep] = cell;
            }
            nextStep = nextStep + 1 < MOST_STEPS ? nextStep + 1 : 0;
            stepCount = Math.min(MOST_STEPS, stepCount + 1);
            return true;
        }

        /** Each STEP turned its DECREE over, so that turning it again takes it back. */
        int takeBack() {
            int latest = nextStep > 0 ? nextStep - 1 : MOST_STEPS - 1;
            if (stepCount <= 0 || !within(latest, MOST_STEPS)) {
                return NONE;
            }
            int cell = steps[latest];
            if (!within(cell, decrees.length)) {
                return NONE;
            }
            decrees[cell] = 1 - decrees[cell];
            nextStep = latest;
            stepCount--;
            return 10 * (cell / PROVINCES) + cell % PROVINCES;
        }

        int wetDays() {
            int wet = 0;
            for (int day = 0; day < DAYS; day++) {
                wet += skies[day] >= WET_FROM ? 1 : 0;
            }
            return wet;
        }

        int wetDecreesOn(int day) {
            int wet = 0;
            for (int province = 0; province < PROVINCES; province++) {
                wet += decreeOf(day, province);
            }
            return wet;
        }

        int wetDecrees() {
            int wet = 0;
            for (int day = 0; day < DAYS; day++) {
                wet += wetDecreesOn(day);
            }
            return wet;
        }
    }

    /** The bytes that were fed and not yet read or sung. */
    private static final class Tape {
        final int[] bytes = new int[MOST_BYTES];
        int count;

        void put(int four) {
            for (int shift = 24; shift >= 0 && within(count, MOST_BYTES); shift -= 8) {
                bytes[count] = four >> shift & 255;
                count++;
            }
        }

        /** 0 behind the last byte, which is part of no TOKEN. */
        int at(int i) {
            return within(i, count) && i < MOST_BYTES ? bytes[i] : 0;
        }
    }

    /** The TOKENS of a tape, the end being the last of them. */
    private static final class Tokens {
        final int[] kinds = new int[MOST_BYTES + 1];
        final int[] places = new int[MOST_BYTES + 1];
        final int[] values = new int[MOST_BYTES + 1];
        int count;

        void scan(Tape tape) {
            count = 0;
            int next = 0;
            for (int at = 0; at < tape.count; at++) {
                int first = tape.at(at);
                if (at >= next && first != BLANK && first != NEW_LINE) {
                    next = stopOf(tape, at);
                    int value = isDigit(first) ? numberOf(tape, at, next) : 0;
                    put(kindOf(tape, at, next), at, value);
                }
            }
            put(END, tape.count, 0);
        }

        void put(int kind, int place, int value) {
            if (within(count, kinds.length)) {
                kinds[count] = kind;
                places[count] = place;
                values[count] = value;
                count++;
            }
        }

        static boolean isLetter(int b) {
            return b >= 'a' && b <= 'z' || b >= 'A' && b <= 'Z';
        }

        static boolean isDigit(int b) {
            return b >= '0' && b <= '9';
        }

        static int stopOf(Tape tape, int from) {
            int first = tape.at(from);
            if (!isLetter(first) && !isDigit(first)) {
                boolean longer = (first == '<' || first == '>') && tape.at(from + 1) == '=';
                return longer ? from + 2 : from + 1;
            }
            for (int i = from; i < tape.count; i++) {
                int b = tape.at(i);
                if (isLetter(first) ? !isLetter(b) : !isDigit(b)) {
                    return i;
                }
            }
            return tape.count;
        }

        static int kindOf(Tape tape, int from, int stop) {
            int first = tape.at(from);
            if (isLetter(first)) {
                return wordOf(tape, from, stop);
            }
            return isDigit(first) ? NUMBER : signOf(first, stop - from > 1);
        }

        static int wordOf(Tape tape, int from, int stop) {
            int word = 0;
            int at = from;
            boolean fits = true;
            for (int i = 0; i < WORDS.length(); i++) {
                char sign = WORDS.charAt(i);
                if (sign != ' ') {
                    fits = fits && at < stop && tape.at(at) == sign;
                    at++;
                } else if (fits && at == stop) {
                    return word;
                } else {
                    word++;
                    at = from;
                    fits = true;
                }
            }
            return NO_TOKEN;
        }

        static int signOf(int first, boolean longer) {
            switch (first) {
                case '<':
                    return longer ? LESS_OR_LIKE : LESS;
                case '>':
                    return longer ? MORE_OR_LIKE : MORE;
                case '=':
                    return LIKE;
                case '#':
                    return UNLIKE;
                case '+':
                    return PLUS;
                case '-':
                    return MINUS;
                case '*':
                    return TIMES;
                case '/':
                    return OVER;
                case '(':
                    return OPEN;
                case ')':
                    return CLOSE;
                case ';':
                    return SEMICOLON;
                default:
                    return NO_TOKEN;
            }
        }

        /** Held just above 9999, so that no run of digits is too long for it. */
        static int numberOf(Tape tape, int from, int stop) {
            int number = 0;
            for (int i = from; i < stop; i++) {
                number = Math.min(MOST_NUMBER + 1, number * 10 + tape.at(i) - '0');
            }
            return number;
        }
    }

    /** One TEXT: the code of its CLAUSES, what is worked on ahead of what is done with it. */
    private static final class Law {
        // A NUMBER stands as it is, any other kind as -1 - kind.
        final int[] code = new int[MOST_BYTES];
        final int[] starts = new int[CLAUSES];
        final int[] stops = new int[CLAUSES];
        final int[] order = new int[CLAUSES];
        int clauses;
        int length;

        void clear() {
            Arrays.fill(starts, 0);
            Arrays.fill(stops, 0);
            clauses = 0;
            length = 0;
        }

        void enter(int clause, int start) {
            if (within(clause, CLAUSES) && within(clauses, CLAUSES)) {
                starts[clause] = start;
                stops[clause] = length;
                order[clauses] = clause;
                clauses++;
            }
        }

        boolean has(int clause) {
            return within(clause, CLAUSES) && stops[clause] > starts[clause];
        }

        int startOf(int clause) {
            return clause >= 0 && clause < CLAUSES ? starts[clause] : 0;
        }

        int stopOf(int clause) {
            return clause >= 0 && clause < CLAUSES ? stops[clause] : 0;
        }

        int clauseAt(int i) {
            return within(i, clauses) && i < CLAUSES ? order[i] : NONE;
        }

        boolean asks(int clause, int name) {
            int stop = Math.min(code.length, stopOf(clause));
            for (int i = Math.max(0, startOf(clause)); i < stop; i++) {
                if (code[i] == -1 - name) {
                    return true;
                }
            }
            return false;
        }
    }

    /** Reads a tape into a law, up to its first FAULT. */
    private static final class Reader {
        boolean hasRead;
        int faultKind;
        int faultAt = NONE;
        private final Tokens tokens = new Tokens();
        private Law law;
        private int at;
        private int clause;

        Reader(Law law) {
            this.law = law;
        }

        boolean read(Tape tape, Law into) {
            hasRead = true;
            faultKind = 0;
            faultAt = NONE;
            law = into;
            law.clear();
            at = 0;
            tokens.scan(tape);
            for (int turn = 0; turn < tokens.count && kind() != END; turn++) {
                if (!readClause()) {
                    return false;
                }
            }
            return true;
        }

        private int kind() {
            return at >= 0 && at < tokens.count && at < tokens.kinds.length ? tokens.kinds[at] : END;
        }

        private int value() {
            return at >= 0 && at < tokens.values.length ? tokens.values[at] : 0;
        }

        private boolean wrong(int fault) {
            faultKind = fault;
            faultAt = at >= 0 && at < tokens.places.length ? tokens.places[at] : NONE;
            return false;
        }

        private boolean readClause() {
            clause = kind();
            if (!within(clause, CLAUSES)) {
                return wrong(FAULT_PLACE);
            }
            if (law.has(clause)) {
                return wrong(FAULT_AGAIN);
            }
            at++;
            int start = law.length;
            boolean isSum = clause == GAIN || clause == FINE || clause == TOLL;
            if (isSum ? !readSum(0) : !readEither()) {
                return false;
            }
            if (kind() != SEMICOLON) {
                return wrong(FAULT_PLACE);
            }
            at++;
            law.enter(clause, start);
            return true;
        }

        /** EITHER and BOTH in one: an and is done ahead of an or that is still due. */
        private boolean readEither() {
            boolean orDue = false;
            boolean andDue = false;
            for (int turn = 0; turn < tokens.count; turn++) {
                if (!readAsk()) {
                    return false;
                }
                emitIf(andDue, -1 - AND);
                andDue = kind() == AND;
                if (!andDue) {
                    emitIf(orDue, -1 - OR);
                    orDue = kind() == OR;
                    if (!orDue) {
                        return true;
                    }
                }
                at++;
            }
            return wrong(FAULT_PLACE);
        }

        private boolean readAsk() {
            int nots = 0;
            for (int turn = 0; turn <= MOST_OPEN && kind() == NOT; turn++) {
                if (nots >= MOST_OPEN) {
                    return wrong(FAULT_OPEN);
                }
                nots++;
                at++;
            }
            if (!readSum(nots)) {
                return false;
            }
            int asked = kind();
            if (asked < LESS || asked > UNLIKE) {
                return wrong(FAULT_PLACE);
            }
            at++;
            if (!readSum(nots)) {
                return false;
            }
            emitIf(true, -1 - asked);
            emitIf(nots % 2 == 1, -1 - NOT);
            return true;
        }

        /** SUM and PRODUCT in one; open is how many of ( not - stand open around it. */
        private boolean readSum(int open) {
            int product = NO_TOKEN;
            int sum = NO_TOKEN;
            for (int turn = 0; turn < tokens.count; turn++) {
                if (!readOne(open)) {
                    return false;
                }
                emitIf(product != NO_TOKEN, -1 - product);
                product = kind() == TIMES || kind() == OVER ? kind() : NO_TOKEN;
                if (product == NO_TOKEN) {
                    emitIf(sum != NO_TOKEN, -1 - sum);
                    sum = kind() == PLUS || kind() == MINUS ? kind() : NO_TOKEN;
                    if (sum == NO_TOKEN) {
                        return true;
                    }
                }
                at++;
            }
            return wrong(FAULT_PLACE);
        }

        private boolean readOne(int open) {
            int opened = open;
            for (int turn = 0; turn <= MOST_OPEN && kind() == MINUS; turn++) {
                if (opened >= MOST_OPEN) {
                    return wrong(FAULT_OPEN);
                }
                opened++;
                at++;
            }
            if (kind() != OPEN) {
                int fault = faultOfPlain(kind(), value());
                if (fault != 0) {
                    return wrong(fault);
                }
                emitIf(true, kind() == NUMBER ? value() : -1 - kind());
            } else {
                if (opened >= MOST_OPEN) {
                    return wrong(FAULT_OPEN);
                }
                at++;
                if (!readSum(opened + 1)) {
                    return false;
                }
                if (kind() != CLOSE) {
                    return wrong(FAULT_PLACE);
                }
            }
            at++;
            emitIf((opened - open) % 2 == 1, -1 - NEGATE);
            return true;
        }

        /** 0 where a NUMBER or a NAME of this CLAUSE stands. */
        private int faultOfPlain(int kind, int value) {
            if (kind == NUMBER) {
                return value > MOST_NUMBER ? FAULT_NUMBER : 0;
            }
            int name = kind - DAY;
            if (name < 0 || name >= NAME_IS_OF.length) {
                return FAULT_PLACE;
            }
            return (NAME_IS_OF[name] >> clause & 1) == 0 ? FAULT_NAME : 0;
        }

        private void emitIf(boolean due, int entry) {
            if (due && law.length >= 0 && law.length < law.code.length) {
                law.code[law.length] = entry;
                law.length++;
            }
        }
    }

    /** The laws of the TEXTS, and an empty one for the time without THE TEXT. */
    private static final class Shelf {
        private final Rolls rolls;
        final Law blank = new Law();
        private final Law[] laws = new Law[MOST_TEXTS];

        Shelf(Rolls rolls) {
            this.rolls = rolls;
            for (int i = 0; i < MOST_TEXTS; i++) {
                laws[i] = new Law();
            }
        }

        /** Null where there is no place for such a TEXT. */
        Law at(int i) {
            return within(i, MOST_TEXTS) ? laws[i] : null;
        }

        Law ruling() {
            int i = rolls.ruling;
            Law law = i >= 0 && i < laws.length ? laws[i] : null;
            return law == null ? blank : law;
        }
    }

    /** Works out what CLAUSES come to by the NAMES as they were told. */
    private static final class Bench {
        // Deeper than 8 open brackets with a sum and a product each can need.
        private final int[] stack = new int[40];
        private final int[] told = new int[NAMES];

        void tell(int name, int value) {
            if (within(name - DAY, NAMES)) {
                told[name - DAY] = value;
            }
        }

        /** A SUM's number, or 1 or 0 of an EITHER; 0 without such a CLAUSE. */
        int run(Law law, int clause) {
            int[] codes = law.code;
            int stop = Math.min(codes.length, law.stopOf(clause));
            int top = 0;
            for (int i = Math.max(0, law.startOf(clause)); i < stop; i++) {
                int kind = -1 - codes[i];
                if (kind < 0 || kind >= DAY && kind < DAY + NAMES) {
                    if (top >= stack.length) {
                        return 0;
                    }
                    stack[top] = kind < 0 ? codes[i] : told[kind - DAY];
                    top++;
                } else if (kind == NOT || kind == NEGATE) {
                    if (top < 1) {
                        return 0;
                    }
                    stack[top - 1] = kind == NOT ? 1 - stack[top - 1] : -stack[top - 1];
                } else {
                    if (top < 2) {
                        return 0;
                    }
                    stack[top - 2] = held(worked(kind, stack[top - 2], stack[top - 1]));
                    top--;
                }
            }
            return top > 0 ? stack[0] : 0;
        }

        private static int held(long value) {
            if (value > MOST_VALUE) {
                return MOST_VALUE;
            }
            return value < -MOST_VALUE ? -MOST_VALUE : (int) value;
        }

        private static long worked(int kind, long a, long b) {
            switch (kind) {
                case PLUS:
                    return a + b;
                case MINUS:
                    return a - b;
                case TIMES:
                    return a * b;
                case OVER:
                    return b == 0 ? 0 : a / b;
                case AND:
                    return a & b;
                case OR:
                    return a | b;
                case LESS:
                    return a < b ? 1 : 0;
                case LESS_OR_LIKE:
                    return a <= b ? 1 : 0;
                case MORE:
                    return a > b ? 1 : 0;
                case MORE_OR_LIKE:
                    return a >= b ? 1 : 0;
                case LIKE:
                    return a == b ? 1 : 0;
                case UNLIKE:
                    return a != b ? 1 : 0;
                default:
                    return 0;
            }
        }
    }

    /** Sits over one PROVINCE on one DAY, by some SKY and DECREE: what its FOLK do and gain. */
    private static final class Court {
        int hats;
        /** A CLAUSE that is looked away from, as if THE TEXT were without it. */
        int leftOut = NONE;
        private final Rolls rolls;
        private final Shelf shelf;
        private final Bench bench = new Bench();
        private final int[] acts = new int[MOST_FOLK];
        private final int[] totals = new int[MOST_FOLK];
        private int province;
        private int truly;
        private int decree;

        Court(Rolls rolls, Shelf shelf) {
            this.rolls = rolls;
            this.shelf = shelf;
        }

        void sitAsItIs(int day, int inProvince) {
            sit(day, inProvince, rolls.decreeOf(day, inProvince));
        }

        /** All of the PROVINCE are asked first, for hats count what each of them does. */
        void sit(int day, int inProvince, int byDecree) {
            int sky = rolls.skyOf(day);
            province = inProvince;
            decree = byDecree;
            truly = sky >= WET_FROM ? 1 : 0;
            bench.tell(DAY, day);
            bench.tell(PROVINCE, province);
            bench.tell(SKY, sky);
            bench.tell(DECREE, decree);
            hats = 0;
            for (int who = 0; who < rolls.count && who < MOST_FOLK; who++) {
                if (rolls.home[who] == province) {
                    call(who);
                    acts[who] = comesTo(DOES);
                    hats += acts[who];
                }
            }
            bench.tell(HATS, hats);
        }

        /** Whether each of the FOLK sat over would do by another SKY as it does. */
        boolean allDoAlike(int sky) {
            bench.tell(SKY, sky);
            for (int who = 0; who < rolls.count && who < MOST_FOLK; who++) {
                if (rolls.home[who] == province) {
                    call(who);
                    if (comesTo(DOES) != acts[who]) {
                        return false;
                    }
                }
            }
            return true;
        }

        int actOf(int who) {
            return within(who, MOST_FOLK) ? acts[who] : 0;
        }

        int appealOf(int who) {
            call(who);
            return comesTo(APPEAL);
        }

        int fineOf(int who) {
            call(who);
            return comesTo(APPEAL) == 1 ? 0 : between(comesTo(FINE), 0, 999);
        }

        int gainOf(int who, boolean paper) {
            int fined = fineOf(who);
            bench.tell(WET, paper ? decree : truly);
            return between(comesTo(GAIN), -9999, 9999) - fined;
        }

        /** True GAINS of all FOLK of a PROVINCE on a DAY, were its DECREE that. */
        int provinceGain(int day, int inProvince, int byDecree) {
            sit(day, inProvince, byDecree);
            int all = 0;
            for (int who = 0; who < rolls.count; who++) {
                if (rolls.homeOf(who) == province) {
                    all += gainOf(who, false);
                }
            }
            return all;
        }

        int moreByOther(int who, int day) {
            int at = rolls.homeOf(who);
            sitAsItIs(day, at);
            int asItIs = gainOf(who, false);
            sit(day, at, 1 - rolls.decreeOf(day, at));
            return gainOf(who, false) - asItIs;
        }

        /** GAINS of one of the FOLK (NONE: of all) on some DAYS; each one's own stay in totals. */
        int tally(int only, int from, int to, boolean paper) {
            Arrays.fill(totals, 0);
            int all = 0;
            for (int at = 0; at < PROVINCES; at++) {
                if (only == NONE || rolls.homeOf(only) == at) {
                    for (int day = from; day <= to; day++) {
                        sitAsItIs(day, at);
                        all += addGains(only, paper);
                    }
                }
            }
            return all;
        }

        private int addGains(int only, boolean paper) {
            int all = 0;
            for (int who = 0; who < rolls.count && who < MOST_FOLK; who++) {
                if (rolls.home[who] == province && (only == NONE || only == who)) {
                    int gained = gainOf(who, paper);
                    totals[who] += gained;
                    all += gained;
                }
            }
            return all;
        }

        int totalOf(int who) {
            return within(who, MOST_FOLK) ? totals[who] : 0;
        }

        int warrantFor(int day, int inProvince) {
            bench.tell(DAY, day);
            bench.tell(PROVINCE, inProvince);
            bench.tell(LAST, rolls.lastOf(day, inProvince));
            bench.tell(SEEN, rolls.seenOn(day));
            bench.tell(SKY, rolls.skyOf(day));
            return comesTo(WARRANT);
        }

        int tollFor(int day, int inProvince, int mine, int others) {
            bench.tell(DAY, day);
            bench.tell(PROVINCE, inProvince);
            bench.tell(MINE, mine);
            bench.tell(OTHERS, others);
            return between(comesTo(TOLL), -999, 999);
        }

        private void call(int who) {
            if (within(who, MOST_FOLK)) {
                bench.tell(TRADE, rolls.trade[who]);
                bench.tell(FEAR, rolls.fear[who]);
                bench.tell(ACT, acts[who]);
            }
        }

        private int comesTo(int clause) {
            return clause == leftOut ? 0 : bench.run(shelf.ruling(), clause);
        }
    }

    /** Draws the PLAN: every way to fill the clerk's rule, sunny first, the best one kept. */
    private static final class Planner {
        int best;
        int bestPath;
        private final Rolls rolls;
        private final Court court;
        private final int[] gains = new int[2 * MOST_PLANNED];
        private final int[] rule = new int[2 * SKIES];
        private int first;
        private int length;
        private boolean any;

        Planner(Rolls rolls, Court court) {
            this.rolls = rolls;
            this.court = court;
        }

        /** bestPath has the DECREE of the k-th DAY as its bit k. */
        void draw(int province, int from, int n) {
            first = from;
            length = Math.min(n, MOST_PLANNED);
            for (int k = 0; k < length; k++) {
                gains[2 * k] = court.provinceGain(from + k, province, 0);
                gains[2 * k + 1] = court.provinceGain(from + k, province, 1);
            }
            Arrays.fill(rule, NONE);
            any = false;
            best = 0;
            bestPath = 0;
            follow(0, rolls.lastOf(from, province), 0, 0);
        }

        private void follow(int k, int last, int gained, int path) {
            if (k >= length || k >= MOST_PLANNED) {
                // Only more counts: of like ones the one that was sunny first came first.
                if (!any || gained > best) {
                    any = true;
                    best = gained;
                    bestPath = path;
                }
                return;
            }
            int key = last * SKIES + rolls.seenOn(first + k);
            if (!within(key, rule.length)) {
                return;
            }
            int ruled = rule[key];
            for (int decree = 0; decree <= 1; decree++) {
                if (ruled == NONE || ruled == decree) {
                    rule[key] = decree;
                    follow(k + 1, decree, gained + gains[2 * k + decree], path | decree << k);
                }
            }
            rule[key] = ruled;
        }
    }

    /** Weighs for a DAY what each PROVINCE has by each of its DECREES. */
    private static final class Council {
        private final Rolls rolls;
        private final Court court;
        private final int[] gains = new int[PROVINCES * 2];
        private final int[] tolls = new int[PROVINCES * 2 * PROVINCES];

        Council(Rolls rolls, Court court) {
            this.rolls = rolls;
            this.court = court;
        }

        void weigh(int day) {
            for (int at = 0; at < gains.length; at++) {
                gains[at] = court.provinceGain(day, at / 2, at % 2);
            }
            for (int at = 0; at < tolls.length; at++) {
                int side = at / PROVINCES;
                tolls[at] = court.tollFor(day, side / 2, side % 2, at % PROVINCES);
            }
        }

        boolean isEven(int stamps) {
            for (int province = 0; province < PROVINCES; province++) {
                if (shareOf(province, stamps ^ 1 << province) > shareOf(province, stamps)) {
                    return false;
                }
            }
            return true;
        }

        private int shareOf(int province, int stamps) {
            int mine = stamps >> province & 1;
            int others = 0;
            for (int other = 0; other < PROVINCES; other++) {
                others += (stamps >> other & 1) != mine ? 1 : 0;
            }
            int side = 2 * province + mine;
            int toll = side * PROVINCES + others;
            if (!within(side, gains.length) || !within(toll, tolls.length)) {
                return 0;
            }
            return gains[side] + tolls[toll];
        }
    }

    /** The tape as words, each with its vowels. */
    private static final class Song {
        int words;
        private final int[] vowels = new int[MOST_BYTES];

        /** Whether the tape is a SONG. */
        boolean read(Tape tape) {
            words = 0;
            boolean inWord = false;
            for (int i = 0; i < tape.count; i++) {
                int b = tape.at(i);
                if (b != BLANK && (b < 'a' || b > 'z')) {
                    return false;
                }
                if (b != BLANK && !inWord && within(words, MOST_BYTES)) {
                    vowels[words] = 0;
                    words++;
                }
                inWord = b != BLANK;
                if (isVowel(b) && within(words - 1, MOST_BYTES)) {
                    vowels[words - 1]++;
                }
            }
            return words > 0;
        }

        int skyOf(int k, int key) {
            return within(k, MOST_BYTES) ? (vowels[k] + key) % SKIES : 0;
        }

        private static boolean isVowel(int b) {
            return b == 'a' || b == 'e' || b == 'i' || b == 'o' || b == 'u';
        }
    }
}

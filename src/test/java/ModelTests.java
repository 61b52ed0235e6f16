import java.util.ArrayList;
import java.util.HashMap;
import java.util.HashSet;
import java.util.List;
import java.util.Map;
import java.util.Random;
import java.util.Set;
import java.util.function.ToLongFunction;

/** Drawn runs of calls on the class and on a slow model written apart from it, answer by answer. */
public final class ModelTests {
    private static final int RUNS = 1500;
    private static final int CALLS = 512;

    private static final class Fault extends RuntimeException {
        private static final long serialVersionUID = 1L;
        final int kind;
        final int place;

        Fault(int kind, int place) {
            this.kind = kind;
            this.place = place;
        }
    }

    /** What a NAME stands for while a CLAUSE is looked at. */
    private interface Part extends ToLongFunction<Map<String, Integer>> { }

    /** A TEXT: its CLAUSES in their order, and the words that each of them uses. */
    private static final class Text {
        final List<String> order = new ArrayList<>();
        final Map<String, Part> parts = new HashMap<>();
        final Map<String, Set<String>> uses = new HashMap<>();

        Text without(String clause) {
            Text less = new Text();
            for (String each : order) {
                if (!each.equals(clause)) {
                    less.order.add(each);
                    less.parts.put(each, parts.get(each));
                }
            }
            return less;
        }
    }

    /** Reads byte by byte as the grammar is written, one method a rule. */
    private static final class Parser {
        private static final Map<String, String> NAMES = new HashMap<>();

        static {
            NAMES.put("day", "warrant does gain fine appeal toll");
            NAMES.put("province", "warrant does gain fine appeal toll");
            NAMES.put("last", "warrant");
            NAMES.put("seen", "warrant");
            NAMES.put("sky", "warrant does gain appeal");
            NAMES.put("decree", "does gain fine appeal");
            NAMES.put("trade", "does gain fine appeal");
            NAMES.put("fear", "does gain fine appeal");
            NAMES.put("act", "gain fine");
            NAMES.put("wet", "gain");
            NAMES.put("hats", "appeal");
            NAMES.put("mine", "toll");
            NAMES.put("others", "toll");
        }

        private final String tape;
        private final Text text = new Text();
        private int place;
        private int next;
        private String token;
        private String clause;
        private int open;

        Parser(String tape) {
            this.tape = tape;
            advance();
        }

        private static boolean letter(char c) {
            return c >= 'a' && c <= 'z' || c >= 'A' && c <= 'Z';
        }

        private static boolean digit(char c) {
            return c >= '0' && c <= '9';
        }

        private void advance() {
            while (next < tape.length() && (tape.charAt(next) == ' ' || tape.charAt(next) == '\n')) {
                next++;
            }
            place = next;
            if (next == tape.length()) {
                token = "";
                return;
            }
            char c = tape.charAt(next++);
            if (letter(c)) {
                while (next < tape.length() && letter(tape.charAt(next))) {
                    next++;
                }
            } else if (digit(c)) {
                while (next < tape.length() && digit(tape.charAt(next))) {
                    next++;
                }
            } else if ("<>".indexOf(c) >= 0 && next < tape.length() && tape.charAt(next) == '=') {
                next++;
            }
            token = tape.substring(place, next);
        }

        private Fault fault(int kind) {
            return new Fault(kind, place);
        }

        Text read() {
            while (!token.isEmpty()) {
                if (!List.of("warrant", "does", "gain", "fine", "appeal", "toll").contains(token)) {
                    throw fault(1);
                }
                if (text.order.contains(token)) {
                    throw fault(4);
                }
                clause = token;
                text.uses.put(clause, new HashSet<>());
                advance();
                boolean sum = List.of("gain", "fine", "toll").contains(clause);
                Part part = sum ? sum() : either();
                if (!token.equals(";")) {
                    throw fault(1);
                }
                advance();
                text.order.add(clause);
                text.parts.put(clause, part);
            }
            return text;
        }

        private Part either() {
            Part left = both();
            while (token.equals("or")) {
                advance();
                Part a = left;
                Part b = both();
                left = m -> a.applyAsLong(m) + b.applyAsLong(m) > 0 ? 1 : 0;
            }
            return left;
        }

        private Part both() {
            Part left = ask();
            while (token.equals("and")) {
                advance();
                Part a = left;
                Part b = ask();
                left = m -> a.applyAsLong(m) * b.applyAsLong(m);
            }
            return left;
        }

        private void openOne() {
            if (open == 8) {
                throw fault(3);
            }
            open++;
            advance();
        }

        private Part ask() {
            if (token.equals("not")) {
                openOne();
                Part a = ask();
                open--;
                return m -> 1 - a.applyAsLong(m);
            }
            Part a = sum();
            String asked = token;
            if (!List.of("<", "<=", ">", ">=", "=", "#").contains(asked)) {
                throw fault(1);
            }
            advance();
            Part b = sum();
            return m -> holds(asked, a.applyAsLong(m), b.applyAsLong(m)) ? 1 : 0;
        }

        private static boolean holds(String asked, long a, long b) {
            return switch (asked) {
                case "<" -> a < b;
                case "<=" -> a <= b;
                case ">" -> a > b;
                case ">=" -> a >= b;
                case "=" -> a == b;
                default -> a != b;
            };
        }

        private static long held(long value) {
            return Math.max(-1000000L, Math.min(1000000L, value));
        }

        private Part sum() {
            Part left = product();
            while (token.equals("+") || token.equals("-")) {
                long sign = token.equals("+") ? 1 : -1;
                advance();
                Part a = left;
                Part b = product();
                left = m -> held(a.applyAsLong(m) + sign * b.applyAsLong(m));
            }
            return left;
        }

        private Part product() {
            Part left = one();
            while (token.equals("*") || token.equals("/")) {
                boolean times = token.equals("*");
                advance();
                Part a = left;
                Part b = one();
                left = m -> {
                    long x = a.applyAsLong(m);
                    long y = b.applyAsLong(m);
                    return held(times ? x * y : y == 0 ? 0 : x / y);
                };
            }
            return left;
        }

        private Part one() {
            if (token.equals("-")) {
                openOne();
                Part a = one();
                open--;
                return m -> -a.applyAsLong(m);
            }
            if (token.equals("(")) {
                openOne();
                Part a = sum();
                open--;
                if (!token.equals(")")) {
                    throw fault(1);
                }
                advance();
                return a;
            }
            String name = token;
            if (!name.isEmpty() && digit(name.charAt(0))) {
                java.math.BigInteger number = new java.math.BigInteger(name);
                if (number.compareTo(java.math.BigInteger.valueOf(9999)) > 0) {
                    throw fault(2);
                }
                advance();
                return m -> number.longValue();
            }
            if (!NAMES.containsKey(name)) {
                throw fault(1);
            }
            if (!List.of(NAMES.get(name).split(" ")).contains(clause)) {
                throw fault(5);
            }
            text.uses.get(clause).add(name);
            advance();
            return m -> m.get(name);
        }
    }

    /** All that an image keeps. */
    private static final class State {
        List<int[]> folk = new ArrayList<>();
        int[] skies = new int[30];
        int[][] decrees = new int[30][4];
        int[] chances = {1, 1, 1, 1, 1, 1, 1, 1, 1, 1};
        int ruin;
        List<Text> texts = new ArrayList<>();
        int ruling = -1;
        List<int[]> steps = new ArrayList<>();

        State copy() {
            State other = new State();
            other.folk.addAll(folk);
            other.skies = skies.clone();
            for (int d = 0; d < 30; d++) {
                other.decrees[d] = decrees[d].clone();
            }
            other.chances = chances.clone();
            other.ruin = ruin;
            other.texts.addAll(texts);
            other.ruling = ruling;
            other.steps.addAll(steps);
            return other;
        }
    }

    /** The document again, in the plainest way and without regard to time. */
    private static final class Model {
        State s = new State();
        State kept = new State();
        String tape = "";
        int fault = -1;
        int faultPlace = -1;

        static boolean in(int v, int bound) {
            return v >= 0 && v < bound;
        }

        Text law() {
            return s.ruling < 0 ? new Text() : s.texts.get(s.ruling);
        }

        long eval(Text law, String clause, Map<String, Integer> names) {
            return law.parts.containsKey(clause) ? law.parts.get(clause).applyAsLong(names) : 0;
        }

        Map<String, Integer> names(int who, int day, int sky, int decree) {
            Map<String, Integer> m = new HashMap<>();
            m.put("day", day);
            m.put("province", s.folk.get(who)[0]);
            m.put("trade", s.folk.get(who)[1]);
            m.put("fear", s.folk.get(who)[2]);
            m.put("sky", sky);
            m.put("decree", decree);
            return m;
        }

        int does(Text law, int who, int day, int sky, int decree) {
            return (int) eval(law, "does", names(who, day, sky, decree));
        }

        int appeal(Text law, int who, int day, int decree) {
            int hats = 0;
            for (int other = 0; other < s.folk.size(); other++) {
                if (s.folk.get(other)[0] == s.folk.get(who)[0]) {
                    hats += does(law, other, day, s.skies[day], decree);
                }
            }
            Map<String, Integer> m = names(who, day, s.skies[day], decree);
            m.put("hats", hats);
            return (int) eval(law, "appeal", m);
        }

        int fine(Text law, int who, int day, int decree) {
            if (appeal(law, who, day, decree) == 1) {
                return 0;
            }
            Map<String, Integer> m = names(who, day, s.skies[day], decree);
            m.put("act", does(law, who, day, s.skies[day], decree));
            return (int) Math.max(0, Math.min(999, eval(law, "fine", m)));
        }

        int gain(Text law, int who, int day, int decree, boolean paper) {
            Map<String, Integer> m = names(who, day, s.skies[day], decree);
            m.put("act", does(law, who, day, s.skies[day], decree));
            m.put("wet", paper ? decree : s.skies[day] / 5);
            long gained = Math.max(-9999, Math.min(9999, eval(law, "gain", m)));
            return (int) gained - fine(law, who, day, decree);
        }

        int gain(int who, int day, boolean paper) {
            return gain(law(), who, day, s.decrees[day][s.folk.get(who)[0]], paper);
        }

        int gains(Text law, int province, int day, int decree) {
            int all = 0;
            for (int who = 0; who < s.folk.size(); who++) {
                if (s.folk.get(who)[0] == province) {
                    all += gain(law, who, day, decree, false);
                }
            }
            return all;
        }

        int folk(int p, int t, int f) {
            if (!in(p, 4) || !in(t, 10) || !in(f, 10) || s.folk.size() == 12) {
                return -1;
            }
            s.folk.add(new int[] {p, t, f});
            return s.folk.size() - 1;
        }

        int sky(int d, int v) {
            if (!in(d, 30) || !in(v, 10)) {
                return 0;
            }
            s.skies[d] = v;
            return 1;
        }

        int skies(int seed) {
            if (!in(seed, 10000)) {
                return -1;
            }
            long x = seed * 11L + 7;
            for (int d = 0; d < 30; d++) {
                s.skies[d] = (int) (x % 10);
                x = (x * 233 + 61) % 30139;
            }
            return about(6);
        }

        boolean stamp(int d, int p, int v) {
            if (s.decrees[d][p] == v) {
                return false;
            }
            s.steps.add(new int[] {d, p, s.decrees[d][p]});
            if (s.steps.size() > 60) {
                s.steps.remove(0);
            }
            s.decrees[d][p] = v;
            return true;
        }

        int decree(int d, int p, boolean wet) {
            if (!in(d, 30) || !in(p, 4)) {
                return 0;
            }
            stamp(d, p, wet ? 1 : 0);
            return 1;
        }

        int chance(int k, int c) {
            if (!in(k, 10) || !in(c, 10)) {
                return 0;
            }
            s.chances[k] = c;
            return 1;
        }

        int ruin(int r) {
            if (!in(r, 10000)) {
                return 0;
            }
            s.ruin = r;
            return 1;
        }

        int feed(int... words) {
            StringBuilder more = new StringBuilder();
            for (int w : words) {
                for (int k = 3; k >= 0; k--) {
                    more.append((char) (w >>> 8 * k & 255));
                }
            }
            if (tape.length() + more.length() > 300) {
                return -1;
            }
            tape += more;
            return tape.length();
        }

        int end(int n) {
            if (n < 0 || n > tape.length()) {
                return -1;
            }
            tape = tape.substring(0, n);
            return n;
        }

        int text() {
            if (s.texts.size() == 4) {
                return -1;
            }
            String told = tape;
            tape = "";
            try {
                s.texts.add(new Parser(told).read());
                fault = 0;
                faultPlace = -1;
                return s.texts.size() - 1;
            } catch (Fault f) {
                fault = f.kind;
                faultPlace = f.place;
                return -1;
            }
        }

        int fault(int what) {
            return what == 0 ? fault : what == 1 ? faultPlace : -1;
        }

        int by(int t) {
            if (t != -1 && !in(t, s.texts.size())) {
                return 0;
            }
            s.ruling = t;
            return 1;
        }

        int warrant(int from, int to) {
            if (!in(from, 30) || !in(to, 30) || from > to || !law().parts.containsKey("warrant")) {
                return -1;
            }
            int turned = 0;
            for (int d = from; d <= to; d++) {
                for (int p = 0; p < 4; p++) {
                    Map<String, Integer> m = new HashMap<>();
                    m.put("day", d);
                    m.put("province", p);
                    m.put("sky", s.skies[d]);
                    m.put("last", last(d, p));
                    m.put("seen", seen(d));
                    turned += stamp(d, p, (int) eval(law(), "warrant", m)) ? 1 : 0;
                }
            }
            return turned;
        }

        int last(int d, int p) {
            return d == 0 ? 0 : s.decrees[d - 1][p];
        }

        int seen(int d) {
            return d == 0 ? 0 : s.skies[d - 1];
        }

        int letGo() {
            if (!law().parts.containsKey("warrant")) {
                return -1;
            }
            return law().uses.get("warrant").contains("sky") ? 1 : 0;
        }

        int undo() {
            if (s.steps.isEmpty()) {
                return -1;
            }
            int[] step = s.steps.remove(s.steps.size() - 1);
            s.decrees[step[0]][step[1]] = step[2];
            return 10 * step[0] + step[1];
        }

        int of(int d, int p, int what) {
            if (!in(d, 30) || !in(p, 4) || !in(what, 3)) {
                return -1;
            }
            int doing = 0;
            for (int who = 0; who < s.folk.size(); who++) {
                if (s.folk.get(who)[0] == p) {
                    doing += does(law(), who, d, s.skies[d], s.decrees[d][p]);
                }
            }
            return what == 0 ? s.skies[d] : what == 1 ? s.decrees[d][p] : doing;
        }

        int on(int who, int d, int what) {
            if (!in(who, s.folk.size()) || !in(d, 30) || !in(what, 3)) {
                return -1;
            }
            int decree = s.decrees[d][s.folk.get(who)[0]];
            return what == 0 ? does(law(), who, d, s.skies[d], decree)
                    : what == 1 ? fine(law(), who, d, decree) : appeal(law(), who, d, decree);
        }

        int gainOf(int who, int d, boolean paper) {
            return in(who, s.folk.size()) && in(d, 30) ? gain(who, d, paper) : -100000;
        }

        int sum(int who, int from, int to, boolean paper) {
            if (who != -1 && !in(who, s.folk.size()) || !in(from, 30) || !in(to, 30) || from > to) {
                return -100000000;
            }
            int all = 0;
            for (int w = 0; w < s.folk.size(); w++) {
                for (int d = from; d <= to && (who == -1 || w == who); d++) {
                    all += gain(w, d, paper);
                }
            }
            return all;
        }

        static int pick(List<Integer> list, int i) {
            return i == -1 ? list.size() : in(i, list.size()) ? list.get(i) : -1;
        }

        int ruined(int i) {
            List<Integer> list = new ArrayList<>();
            for (int w = 0; w < s.folk.size(); w++) {
                if (sum(w, 0, 29, false) < -s.ruin) {
                    list.add(w);
                }
            }
            return pick(list, i);
        }

        int led(int who, int what) {
            if (!in(who, s.folk.size()) || !in(what, 2)) {
                return -1;
            }
            int[] best = {-1, 0};
            for (int d = 29; d >= 0; d--) {
                int turned = 1 - s.decrees[d][s.folk.get(who)[0]];
                int more = gain(law(), who, d, turned, false) - gain(who, d, false);
                if (more >= 1 && more >= best[1]) {
                    best = new int[] {d, more};
                }
            }
            return best[0] < 0 ? -1 : best[what];
        }

        int odds(int d, int p, int what) {
            if (!in(d, 30) || !in(p, 4) || !in(what, 2)) {
                return -1;
            }
            int[] parts = new int[2];
            for (int k = 0; k < 10; k++) {
                boolean alike = true;
                for (int w = 0; w < s.folk.size(); w++) {
                    int decree = s.decrees[d][p];
                    alike &= s.folk.get(w)[0] != p
                            || does(law(), w, d, k, decree) == does(law(), w, d, s.skies[d], decree);
                }
                parts[0] += alike && k >= 5 ? s.chances[k] : 0;
                parts[1] += alike ? s.chances[k] : 0;
            }
            if (parts[1] == 0) {
                return -1;
            }
            for (int g = 90; g > 1; g--) {
                if (parts[0] % g == 0 && parts[1] % g == 0) {
                    return parts[what] / g;
                }
            }
            return parts[what];
        }

        int plan(int p, int from, int n, int i) {
            if (!in(p, 4) || !in(from, 30) || n < 1 || n > 10 || from + n > 30 || i < -1 || i >= n) {
                return -100000000;
            }
            int[][] gains = new int[n][2];
            for (int k = 0; k < n; k++) {
                gains[k][0] = gains(law(), p, from + k, 0);
                gains[k][1] = gains(law(), p, from + k, 1);
            }
            int best = Integer.MIN_VALUE;
            String bestWay = null;
            for (int way = 0; way < 1 << n; way++) {
                // The first DAY is the highest bit, so that ways rise with sunny ones first.
                String bits = Integer.toBinaryString(1 << n | way).substring(1);
                Map<Integer, Character> rule = new HashMap<>();
                boolean fits = true;
                int all = 0;
                for (int k = 0; k < n; k++) {
                    int last = k == 0 ? last(from, p) : bits.charAt(k - 1) - '0';
                    Character had = rule.put(last * 100 + seen(from + k), bits.charAt(k));
                    fits &= had == null || had == bits.charAt(k);
                    all += gains[k][bits.charAt(k) - '0'];
                }
                if (fits && all > best) {
                    best = all;
                    bestWay = bits;
                }
            }
            return i == -1 ? best : bestWay.charAt(i) - '0';
        }

        int found(int p, int what) {
            if (!in(p, 4) || !in(what, 2)) {
                return -1;
            }
            for (int d = 0; d < 30; d++) {
                for (int e = 0; e < d; e++) {
                    if (last(d, p) == last(e, p) && seen(d) == seen(e)
                            && s.decrees[d][p] != s.decrees[e][p]) {
                        return what == 0 ? d : e;
                    }
                }
            }
            return -1;
        }

        int share(int d, int p, int bits) {
            int mine = bits >> p & 1;
            Map<String, Integer> m = new HashMap<>();
            m.put("day", d);
            m.put("province", p);
            m.put("mine", mine);
            m.put("others", mine == 1 ? 4 - Integer.bitCount(bits) : Integer.bitCount(bits));
            long toll = Math.max(-999, Math.min(999, eval(law(), "toll", m)));
            return gains(law(), p, d, mine) + (int) toll;
        }

        int even(int d, int i) {
            if (!in(d, 30)) {
                return -1;
            }
            List<Integer> list = new ArrayList<>();
            for (int bits = 0; bits < 16; bits++) {
                boolean even = true;
                for (int p = 0; p < 4; p++) {
                    even &= share(d, p, bits) >= share(d, p, bits ^ 1 << p);
                }
                if (even) {
                    list.add(bits);
                }
            }
            return pick(list, i);
        }

        int flood(int i) {
            List<Integer> list = new ArrayList<>();
            for (int d = 0; d < 30; d++) {
                int[] r = s.decrees[d];
                if (s.skies[d] < 5 && r[0] == 1 && r[1] == 1 && r[2] == 1 && r[3] == 1) {
                    list.add(d);
                }
            }
            return pick(list, i);
        }

        int allGains(Text law) {
            int all = 0;
            for (int d = 0; d < 30; d++) {
                for (int p = 0; p < 4; p++) {
                    all += gains(law, p, d, s.decrees[d][p]);
                }
            }
            return all;
        }

        int reform(int what) {
            if (!in(what, 2)) {
                return -1;
            }
            int[] best = {-1, 0};
            for (int i = law().order.size() - 1; i >= 0; i--) {
                int more = allGains(law().without(law().order.get(i))) - allGains(law());
                if (more >= 1 && more >= best[1]) {
                    best = new int[] {i, more};
                }
            }
            return best[0] < 0 ? -1 : best[what];
        }

        /** The SKIES that the tape tells, or null. */
        int[] song(int d, int key) {
            if (!in(d, 30) || !in(key, 10) || !tape.matches("[a-z ]*[a-z][a-z ]*")) {
                return null;
            }
            String[] words = tape.strip().split(" +");
            int[] told = new int[words.length];
            for (int k = 0; k < words.length; k++) {
                told[k] = (words[k].replaceAll("[^aeiou]", "").length() + key) % 10;
            }
            return d + told.length > 30 ? null : told;
        }

        int sing(int d, int key) {
            int[] told = song(d, key);
            if (told == null) {
                return -1;
            }
            System.arraycopy(told, 0, s.skies, d, told.length);
            tape = "";
            return told.length;
        }

        int heard(int d, int key) {
            int[] told = song(d, key);
            if (told == null) {
                return -1;
            }
            int alike = 0;
            for (int k = 0; k < told.length; k++) {
                alike += told[k] == s.skies[d + k] ? 1 : 0;
            }
            return alike;
        }

        int image() {
            kept = s.copy();
            return s.folk.size();
        }

        int back() {
            s = kept.copy();
            return s.folk.size();
        }

        int about(int what) {
            int wet = 0;
            int stamps = 0;
            for (int d = 0; d < 30; d++) {
                wet += s.skies[d] / 5;
                for (int p = 0; p < 4; p++) {
                    stamps += s.decrees[d][p];
                }
            }
            int[] first = {s.folk.size(), s.ruin, s.texts.size(), s.ruling, s.steps.size(), tape.length(),
                wet, stamps};
            if (in(what, 8)) {
                return first[what];
            }
            if (in(what - 10, 10)) {
                return s.chances[what - 10];
            }
            if (in(what - 20, s.folk.size())) {
                int[] f = s.folk.get(what - 20);
                return 100 * f[0] + 10 * f[1] + f[2];
            }
            return -2;
        }
    }

    /** Draws TEXTS: mostly sound ones, some with a sign more, less or other. */
    private static final class Writer {
        private final Random random;
        private final StringBuilder out = new StringBuilder();

        Writer(Random random) {
            this.random = random;
        }

        private void put(String word) {
            out.append(word);
            int k = random.nextInt(12);
            boolean needed = Character.isLetterOrDigit(word.charAt(word.length() - 1));
            out.append(k == 0 ? "\n" : needed || k == 1 ? " " : "");
        }

        private String one(String... of) {
            return of[random.nextInt(of.length)];
        }

        /** For each # a digit is drawn, for all @ of a clause one, which is not 0. */
        private static final String[][] TELLING = {
            {"warrant seen>#", "warrant seen+last*#>#+province", "warrant seen*@-seen*@/10*10>4", "warrant sky>4 and last=0",
                "warrant not last=1 and day-day/@*@=1", "warrant seen=# or seen=# or province=#"},
            {"does sky+fear*decree>#+2", "does sky>=fear", "does day+trade-(day+trade)/3*3<sky/3 or decree=1 and fear>#",
                "does sky-trade>-# and sky-trade<#", "does decree=1 and sky>fear or decree=0 and sky>#"},
            {"gain (2*decree-1)*(day*@+sky-(day*@+sky)/11*11-5)*(1+trade)", "gain act*(wet*9-#)-(1-act)*wet*#",
                "gain (decree*#-#)*(day*@-day*@/7*7-3)+act*(trade-fear)", "gain decree*(sky-4)+act*#-wet*fear",
                "gain act*(wet*20-7)*(trade-#)-decree*#", "gain 0-#*act-trade*wet",
                "gain (1-2*decree)*(day*@-day*@/5*5-2)", "gain (2*decree-1)*(sky*@-sky*@/10*10-#)+wet*#"},
            {"fine act*#*(1-decree)+day/9", "fine (trade+day-(trade+day)/3*3)*decree*#", "fine act*fear+decree*#",
                "fine 900+day*#*act"},
            {"appeal hats>#/2", "appeal hats=#/3 or decree=1 and sky<#", "appeal trade=# or hats>fear/2",
                "appeal sky>#+1 and decree=0"},
            {"toll -others*#+mine*#", "toll (2*mine-1)*(others*#-#)*(province+1)", "toll mine*others*#-day",
                "toll (province-1)*others*#+mine*(day-15)"},
        };

        /** A law by which it makes a difference what is stamped, seen and done. */
        String telling() {
            List<String[]> clauses = new ArrayList<>(List.of(TELLING));
            java.util.Collections.shuffle(clauses, random);
            for (String[] clause : clauses) {
                String drawn = one(clause).replace("@", "" + (1 + random.nextInt(9)));
                if (random.nextInt(8) > 0) {
                    for (char c : drawn.toCharArray()) {
                        out.append(c == '#' ? (char) ('0' + random.nextInt(10)) : c);
                    }
                    out.append(one(";", " ;\n", "; "));
                }
            }
            out.setLength(Math.min(300, out.length()));
            return out.toString();
        }

        String text() {
            if (random.nextInt(5) < 3) {
                return telling();
            }
            List<String> clauses = new ArrayList<>(
                    List.of("warrant", "does", "gain", "fine", "appeal", "toll"));
            java.util.Collections.shuffle(clauses, random);
            int count = random.nextInt(8) == 0 ? random.nextInt(7) : 4 + random.nextInt(3);
            for (int i = 0; i < count && i < clauses.size(); i++) {
                int start = out.length();
                clause(clauses.get(i));
                if (out.length() > 300) {
                    out.setLength(start);
                }
            }
            if (random.nextInt(10) == 0) {
                clause(one("warrant", "does", "gain", "fine", "appeal", "toll"));
            }
            if (random.nextInt(6) == 0) {
                spoil();
            }
            out.setLength(Math.min(300, out.length()));
            return out.toString();
        }

        private void spoil() {
            String[] signs = {"<", "<=", ">", "=", "#", "+", "-", "*", "/", "(", ")", ";", "0", "9999", "10000",
                "00012", "99999999999999", " not ", " and ", " or ", " day ", " hats ", " wet ", " mine ", " last ",
                "!", "\t", "\u00e9", " gain ", " fine 1;", " does 1<2;", "X", " skyy ", "\n", "((((((((", "--------",
                " not not not not not not not not ", ")))"};
            int times = 1 + random.nextInt(2);
            for (int i = 0; i < times; i++) {
                int at = random.nextInt(out.length() + 1);
                int kind = random.nextInt(4);
                if (kind == 0 && at < out.length()) {
                    out.deleteCharAt(at);
                } else if (kind == 1) {
                    out.setLength(at);
                } else {
                    out.insert(at, one(signs));
                }
            }
        }

        private void clause(String clause) {
            put(clause);
            if (List.of("gain", "fine", "toll").contains(clause)) {
                sum(clause, 0);
            } else {
                ask(clause);
                for (int i = random.nextInt(3); i > 0; i--) {
                    put(one("or", "and"));
                    ask(clause);
                }
            }
            put(";");
        }

        private void ask(String clause) {
            int nots = random.nextInt(4) == 0 ? 1 + random.nextInt(2) : 0;
            for (int i = 0; i < nots; i++) {
                put("not");
            }
            sum(clause, 0);
            put(one("<", "<=", ">", ">=", "=", "#"));
            sum(clause, 0);
        }

        private void sum(String clause, int depth) {
            atom(clause, depth);
            for (int i = random.nextInt(3); i > 0; i--) {
                put(one("+", "-", "*", "/"));
                atom(clause, depth);
            }
        }

        private void atom(String clause, int depth) {
            int k = random.nextInt(12);
            if (k == 0) {
                put("-");
                atom(clause, depth);
            } else if (k == 1 && depth < 4) {
                put("(");
                sum(clause, depth + 1);
                put(")");
            } else if (k == 2 && random.nextInt(12) == 0) {
                deep(clause);
            } else if (k < 5) {
                put(random.nextInt(6) == 0 ? one("9999", "1000", "0", "007") : "" + random.nextInt(10));
            } else {
                name(clause);
            }
        }

        /** About as many open around one another as may be, often one too many, some with sums waiting at each. */
        private void deep(String clause) {
            int brackets = 0;
            boolean waiting = random.nextBoolean();
            for (int i = 5 + random.nextInt(4); i >= 0; i--) {
                boolean bracket = waiting || random.nextBoolean();
                if (waiting) {
                    out.append(random.nextInt(10)).append(one("+", "-")).append(random.nextInt(4)).append(one("*", "/"));
                }
                put(bracket ? "(" : "-");
                brackets += bracket ? 1 : 0;
            }
            name(clause);
            for (int i = 0; i < brackets; i++) {
                put(")");
            }
        }

        private void name(String clause) {
            if (random.nextInt(150) == 0) {
                put(one("day", "hats", "wet", "act", "mine", "last", "sky", "trade"));
                return;
            }
            switch (clause) {
                case "warrant" -> put(one("day", "province", "last", "seen", "seen", "sky"));
                case "does" -> put(one("day", "province", "sky", "sky", "decree", "decree", "trade", "fear"));
                case "gain" -> put(one("day", "sky", "decree", "decree", "trade", "fear", "act", "wet", "act", "wet"));
                case "fine" -> put(one("day", "province", "decree", "decree", "trade", "fear", "act", "act"));
                case "appeal" -> put(one("day", "sky", "decree", "trade", "fear", "hats", "hats"));
                default -> put(one("day", "province", "mine", "others", "mine", "others"));
            }
        }

        String song() {
            int words = 1 + random.nextInt(random.nextInt(5) == 0 ? 40 : 6);
            for (int i = 0; i < words; i++) {
                for (int k = random.nextInt(7); k >= 0; k--) {
                    out.append(random.nextBoolean() ? one("a", "e", "i", "o", "u")
                            : "" + (char) ('a' + random.nextInt(26)));
                }
                out.append(random.nextInt(8) == 0 ? "   " : " ");
            }
            if (random.nextInt(3) == 0) {
                out.insert(0, " ");
            }
            if (random.nextInt(8) == 0) {
                out.insert(random.nextInt(out.length()), one("A", "\n", "1", "-", "\u0000", "`", "{"));
            }
            if (random.nextBoolean()) {
                out.setLength(out.toString().stripTrailing().length());
            }
            out.setLength(Math.min(300, out.length()));
            return out.toString();
        }
    }

    /** One run: a fresh object and a fresh model, and what was called so far. */
    private static final class Run {
        final Random random;
        final WarrantWeather x = new WarrantWeather();
        final Model m = new Model();
        final StringBuilder log = new StringBuilder();
        int calls;
        boolean wrong;

        Run(long seed) {
            random = new Random(seed);
        }

        int near(int bound) {
            return random.nextInt(25) == 0 ? odd(bound) : random.nextInt(bound);
        }

        int odd(int bound) {
            int[] odd = {-1, -2, bound, bound + 1, Integer.MAX_VALUE, Integer.MIN_VALUE};
            return odd[random.nextInt(odd.length)];
        }

        int orNone(int bound) {
            return random.nextInt(4) == 0 ? -1 : near(bound);
        }

        void same(String call, long got, long want) {
            calls++;
            log.append(call).append(" -> ").append(got).append('\n');
            // What calls behind the 512th answer is free.
            if (got != want && !wrong && calls <= CALLS) {
                wrong = true;
                log.append("due is ").append(want).append('\n');
            }
        }

        void same(String call, boolean got, long want) {
            same(call, got ? 1 : 0, want);
        }

        void tell(String tape) {
            same("end(0)", x.end(0), m.end(0));
            for (int i = 0; i < tape.length(); i += 20) {
                int[] w = new int[5];
                for (int k = 0; k < 20; k++) {
                    int b = i + k < tape.length() ? tape.charAt(i + k) : ' ';
                    w[k / 4] = w[k / 4] << 8 | b;
                }
                same("feed(" + tape.substring(i, Math.min(i + 20, tape.length())) + ")",
                        x.feed(w[0], w[1], w[2], w[3], w[4]), m.feed(w));
            }
            same("end(" + tape.length() + ")", x.end(tape.length()), m.end(tape.length()));
        }

        void text() {
            tell(new Writer(random).text());
            same("text()", x.text(), m.text());
            same("fault(0)", x.fault(0), m.fault(0));
            same("fault(1)", x.fault(1), m.fault(1));
            int latest = m.s.texts.size() - 1;
            if (random.nextInt(3) > 0) {
                same("by(" + latest + ")", x.by(latest), m.by(latest));
            }
        }

        void setUp() {
            for (int i = random.nextInt(14); i > 0; i--) {
                folk();
            }
            int seed = random.nextInt(10000);
            same("skies(" + seed + ")", x.skies(seed), m.skies(seed));
            text();
            text();
            if (random.nextInt(4) > 0) {
                same("image()", x.image(), m.image());
            }
        }

        void folk() {
            int p = random.nextInt(3) == 0 ? near(4) : random.nextInt(2);
            int t = near(10);
            int f = near(10);
            same("folk(" + p + ", " + t + ", " + f + ")", x.folk(p, t, f), m.folk(p, t, f));
        }

        void change() {
            int d = near(30);
            int p = near(4);
            int a = near(10);
            int b = near(10);
            boolean wet = random.nextBoolean();
            switch (random.nextInt(16)) {
                case 0 -> folk();
                case 1, 2 -> same("sky(" + d + ", " + a + ")", x.sky(d, a), m.sky(d, a));
                case 3 -> {
                    int seed = near(10000);
                    same("skies(" + seed + ")", x.skies(seed), m.skies(seed));
                }
                case 4, 5, 6 -> same("decree(" + d + ", " + p + ", " + wet + ")", x.decree(d, p, wet),
                        m.decree(d, p, wet));
                case 7 -> same("chance(" + a + ", " + b + ")", x.chance(a, b), m.chance(a, b));
                case 8 -> {
                    int r = near(10000) / (1 + random.nextInt(100));
                    same("ruin(" + r + ")", x.ruin(r), m.ruin(r));
                }
                case 9 -> {
                    int t = random.nextInt(12) == 0 ? -1 : near(Math.max(1, m.s.texts.size()));
                    same("by(" + t + ")", x.by(t), m.by(t));
                }
                case 10, 11 -> {
                    int to = random.nextInt(3) == 0 ? 29 : dayFrom(d);
                    same("warrant(" + d + ", " + to + ")", x.warrant(d, to), m.warrant(d, to));
                }
                case 12 -> {
                    for (int i = random.nextInt(random.nextInt(20) == 0 ? 70 : 3); i >= 0; i--) {
                        same("undo()", x.undo(), m.undo());
                    }
                }
                case 13 -> {
                    tell(new Writer(random).song());
                    same("heard(" + d + ", " + a + ")", x.heard(d, a), m.heard(d, a));
                    same("sing(" + d + ", " + a + ")", x.sing(d, a), m.sing(d, a));
                    same("heard(" + d + ", " + a + ")", x.heard(d, a), m.heard(d, a));
                }
                case 14 -> {
                    if (random.nextInt(3) == 0) {
                        same("image()", x.image(), m.image());
                    } else if (random.nextInt(2) == 0) {
                        same("back()", x.back(), m.back());
                    } else {
                        text();
                    }
                }
                default -> {
                    if (random.nextInt(20) == 0) {
                        int[] w = random.ints(5).toArray();
                        same("feed(..)", x.feed(w[0], w[1], w[2], w[3], w[4]), m.feed(w));
                        int n = near(300);
                        same("end(" + n + ")", x.end(n), m.end(n));
                        same("text()", x.text(), m.text());
                    }
                }
            }
        }

        /** Mostly one where somebody is. */
        int province() {
            int folk = m.s.folk.size();
            return folk == 0 || random.nextInt(3) == 0 ? near(4) : m.s.folk.get(random.nextInt(folk))[0];
        }

        /** Mostly a day that is not ahead of the first one. */
        int dayFrom(int first) {
            return random.nextInt(4) == 0 ? near(30) : Math.min(29, Math.max(0, first) + random.nextInt(12));
        }

        void ask() {
            int d = near(30);
            int p = province();
            int who = near(Math.max(1, m.s.folk.size()));
            int what = near(2);
            int i = orNone(5);
            boolean paper = random.nextBoolean();
            switch (random.nextInt(18)) {
                case 0 -> same("fault(" + what + ")", x.fault(what), m.fault(what));
                case 1 -> same("letGo()", x.letGo(), m.letGo());
                case 2 -> {
                    int k = near(3);
                    same("of(" + d + ", " + p + ", " + k + ")", x.of(d, p, k), m.of(d, p, k));
                }
                case 3, 4 -> {
                    int k = near(3);
                    same("on(" + who + ", " + d + ", " + k + ")", x.on(who, d, k), m.on(who, d, k));
                }
                case 5, 6 -> same("gain(" + who + ", " + d + ", " + paper + ")", x.gain(who, d, paper),
                        m.gainOf(who, d, paper));
                case 7 -> {
                    int to = dayFrom(d);
                    int w = random.nextBoolean() ? -1 : who;
                    same("sum(" + w + ", " + d + ", " + to + ", " + paper + ")", x.sum(w, d, to, paper),
                            m.sum(w, d, to, paper));
                }
                case 8 -> same("ruined(" + i + ")", x.ruined(i), m.ruined(i));
                case 9, 10 -> same("led(" + who + ", " + what + ")", x.led(who, what), m.led(who, what));
                case 11 -> same("odds(" + d + ", " + p + ", " + what + ")", x.odds(d, p, what),
                        m.odds(d, p, what));
                case 12 -> {
                    int n = random.nextInt(12);
                    int from = random.nextInt(3) == 0 ? d : random.nextInt(20);
                    int k = orNone(Math.max(1, n));
                    same("plan(" + p + ", " + from + ", " + n + ", " + k + ")", x.plan(p, from, n, k),
                            m.plan(p, from, n, k));
                }
                case 13 -> same("found(" + p + ", " + what + ")", x.found(p, what), m.found(p, what));
                case 14 -> same("even(" + d + ", " + i + ")", x.even(d, i), m.even(d, i));
                case 15 -> same("flood(" + i + ")", x.flood(i), m.flood(i));
                case 16 -> same("reform(" + what + ")", x.reform(what), m.reform(what));
                default -> {
                    int k = random.nextInt(36) - 2;
                    same("about(" + k + ")", x.about(k), m.about(k));
                }
            }
        }

        void go() {
            if (random.nextInt(10) > 0) {
                setUp();
            }
            while (calls < CALLS && !wrong) {
                if (random.nextInt(3) == 0) {
                    change();
                } else {
                    ask();
                }
            }
        }
    }

    public static void main(String[] args) {
        int runs = args.length > 0 ? Integer.parseInt(args[0]) : RUNS;
        long first = args.length > 1 ? Long.parseLong(args[1]) : 1;
        for (long seed = first; seed < first + runs; seed++) {
            Run run = new Run(seed);
            run.go();
            if (run.wrong) {
                System.out.println("seed " + seed + ":\n" + run.log);
                System.exit(1);
            }
        }
        System.out.println(runs + " drawn runs are as the model's");
    }
}

import java.io.IOException;
import java.util.function.Supplier;

/** Every sentence of the promises that names a boundary: on it, and one step to each side. */
public final class PromiseEdgeTests extends Checks {
    private static Document document;
    private static String said = "";

    /** The sentence that the next answers are about. */
    private static void sentence(int promise, String words) {
        said = "promise " + promise + " (" + words + ") ";
        if (document.isThere()) {
            due(said + "stands in the document", document.quote("Promise " + promise, words), true);
        }
    }

    private static void is(String what, long got, long want) {
        due(said + what, got, want);
    }

    private static void is(String what, boolean got, boolean want) {
        due(said + what, got, want);
    }

    /** Something of everything, so that a refused call that did something would be seen. */
    private static WarrantWeather busy() {
        WarrantWeather x = new WarrantWeather();
        x.folk(0, 1, 5);
        x.folk(1, 2, 0);
        x.skies(17);
        x.decree(2, 1, true);
        x.decree(29, 3, true);
        x.chance(3, 4);
        x.ruin(7);
        text(x, "gain 1;");
        x.by(text(x, "warrant seen>4; does sky>fear; gain wet*9-act; fine 2; appeal hats>1; toll mine;"));
        text(x, "gain 10000;");
        tape(x, "ab cd");
        return x;
    }

    private static WarrantWeather withFolk(int count) {
        WarrantWeather x = ruledBy("gain 1;");
        for (int i = 0; i < count; i++) {
            x.folk(i % 4, i % 10, 9 - i % 10);
        }
        return x;
    }

    private static void newObject() {
        sentence(1, "No FOLK; THE IMAGE is this.");
        WarrantWeather x = new WarrantWeather();
        is("none", x.about(0), 0);
        is("not the first", x.about(20), -2);
        is("nobody does", x.on(0, 0, 0), NONE);
        is("nobody gains", x.gain(0, 0, false), -100000);
        is("nobody together", x.sum(0, 0, 29, false), NO_SUM);
        is("all of nobody", x.sum(NONE, 0, 29, false), 0);
        changesNothing(said + "back at once", new WarrantWeather(), WarrantWeather::back, 0);
        WarrantWeather y = busy();
        y.back();
        y.end(0);
        WarrantWeather z = new WarrantWeather();
        text(z, "gain 10000;");
        is("all is new but tape and fault", all(y).equals(all(z)), true);
    }

    private static void folk() {
        sentence(2, "NONE for others, or if there are 12.");
        Supplier<WarrantWeather> scene = PromiseEdgeTests::busy;
        range(said + "province", 0, 3, NONE, scene, (x, v) -> x.folk(v, 5, 5), v -> 2);
        range(said + "trade", 0, 9, NONE, scene, (x, v) -> x.folk(3, v, 5), v -> 2);
        range(said + "fear", 0, 9, NONE, scene, (x, v) -> x.folk(3, 5, v), v -> 2);
        range(said + "province told", 0, 3, -3, scene, (x, v) -> x.folk(v, 8, 7) < 0 ? -3 : x.about(22), v -> 100 * v + 87);
        range(said + "trade told", 0, 9, -3, scene, (x, v) -> x.folk(1, v, 7) < 0 ? -3 : x.about(22), v -> 107 + 10 * v);
        range(said + "fear told", 0, 9, -3, scene, (x, v) -> x.folk(1, 8, v) < 0 ? -3 : x.about(22), v -> 180 + v);
        is("if there are 10", withFolk(10).folk(0, 0, 0), 10);
        is("if there are 11", withFolk(11).folk(0, 0, 0), 11);
        changesNothing(said + "if there are 12", withFolk(12), x -> x.folk(0, 0, 0), NONE);
        WarrantWeather x = withFolk(11);
        x.image();
        x.folk(3, 9, 9);
        is("there are 12", x.folk(3, 9, 9), NONE);
        x.back();
        is("11 again", x.folk(2, 2, 2), 11);
        is("and then 12", x.folk(2, 2, 2), NONE);
        is("the twelfth", x.about(31), 222);
    }

    private static void sky() {
        sentence(3, "False for others.");
        Supplier<WarrantWeather> scene = PromiseEdgeTests::busy;
        range(said + "day", 0, 29, 0, scene, (x, v) -> one(x.sky(v, 4)), v -> 1);
        range(said + "sky", 0, 9, 0, scene, (x, v) -> one(x.sky(4, v)), v -> 1);
        range(said + "that day alone", 0, 29, 0, WarrantWeather::new,
                (x, v) -> x.sky(v, 7) ? 100 * x.of(v, 0, 0) + 10 * x.about(6) + neighbours(x, v) : 0, v -> 710);
        range(said + "as told", 0, 9, -1, scene, (x, v) -> x.sky(29, v) ? x.of(29, 0, 0) : -1, v -> v);
    }

    /** The skies of the days around one day, where there are such. */
    private static int neighbours(WarrantWeather x, int day) {
        return Math.max(0, x.of(day - 1, 0, 0)) + Math.max(0, x.of(day + 1, 0, 0));
    }

    private static int[] drawn(int seed) {
        int[] skies = new int[30];
        long x = seed * 11L + 7;
        for (int day = 0; day < 30; day++) {
            skies[day] = (int) (x % 10);
            x = (x * 233 + 61) % 30139;
        }
        return skies;
    }

    private static long wetOnes(int[] skies) {
        long wet = 0;
        for (int sky : skies) {
            wet += sky >= 5 ? 1 : 0;
        }
        return wet;
    }

    private static void skies() {
        sentence(4, "NONE for others.");
        range(said + "seed", 0, 9999, NONE, PromiseEdgeTests::busy, (x, v) -> x.skies(v), v -> wetOnes(drawn(v)));
        for (int seed : new int[] {0, 1, 9998, 9999}) {
            WarrantWeather x = busy();
            x.skies(seed);
            for (int day = 0; day < 30; day++) {
                is("seed " + seed + " day " + day, x.of(day, 0, 0), drawn(seed)[day]);
            }
        }
    }

    private static void decree() {
        sentence(5, "False for others.");
        Supplier<WarrantWeather> scene = PromiseEdgeTests::busy;
        range(said + "day", 0, 29, 0, scene, (x, v) -> one(x.decree(v, 2, true)), v -> 1);
        range(said + "province", 0, 3, 0, scene, (x, v) -> one(x.decree(7, v, true)), v -> 1);
        range(said + "day, sunny", 0, 29, 0, scene, (x, v) -> one(x.decree(v, 3, false)), v -> 1);
        range(said + "that day alone", 0, 29, 0, WarrantWeather::new,
                (x, v) -> x.decree(v, 3, true) ? 10 * x.of(v, 3, 1) + x.about(7) : 0, v -> 11);
        range(said + "that province alone", 0, 3, 0, WarrantWeather::new,
                (x, v) -> x.decree(29, v, true) ? 10 * x.of(29, v, 1) + x.about(7) : 0, v -> 11);
    }

    private static void chance() {
        sentence(6, "False for others.");
        Supplier<WarrantWeather> scene = PromiseEdgeTests::busy;
        range(said + "sky", 0, 9, 0, scene, (x, v) -> one(x.chance(v, 5)), v -> 1);
        range(said + "chance", 0, 9, 0, scene, (x, v) -> one(x.chance(5, v)), v -> 1);
        range(said + "of that sky", 0, 9, -1, scene, (x, v) -> x.chance(v, 8) ? x.about(10 + v) : -1, v -> 8);
        range(said + "as told", 0, 9, -1, scene, (x, v) -> x.chance(9, v) ? x.about(19) : -1, v -> v);
    }

    private static void ruin() {
        sentence(7, "False for others.");
        range(said + "ruin", 0, 9999, 0, PromiseEdgeTests::busy, (x, v) -> one(x.ruin(v)), v -> 1);
        range(said + "as told", 0, 9999, -1, PromiseEdgeTests::busy, (x, v) -> x.ruin(v) ? x.about(1) : -1, v -> v);
    }

    private static WarrantWeather withBytes(int count) {
        return taped("gain 7;" + " ".repeat(count - 7));
    }

    private static void feed() {
        sentence(8, "NONE, and none come, if there would be more than 300.");
        is("0 and 20", new WarrantWeather().feed(0, 0, 0, 0, 0), 20);
        is("279 and 20", withBytes(279).feed(0, 0, 0, 0, 0), 299);
        is("280 and 20", withBytes(280).feed(0, 0, 0, 0, 0), 300);
        for (int count : new int[] {281, 282, 299, 300}) {
            changesNothing(said + count + " and 20", withBytes(count), x -> x.feed(-1, -1, -1, -1, -1), NONE);
            WarrantWeather x = withBytes(count);
            x.feed(-1, -1, -1, -1, -1);
            is("the tape is as it was with " + count, x.text(), 0);
        }
        WarrantWeather x = withBytes(280);
        x.feed(0x20202020, 0x20202020, 0x20202020, 0x20202020, 0x20202021);
        is("the last of 300 is a byte, too", x.text() * 1000 + x.fault(1), -1000 + 299);
        WarrantWeather y = withBytes(20);
        y.feed(LEAST, MOST, 0, 0, 0);
        y.text();
        is("the highest of a first", y.fault(1), 20);
    }

    private static void end() {
        sentence(9, "NONE, and nothing is done, if it has not so many, or n is below 0.");
        range(said + "n of none", 0, 0, NONE, WarrantWeather::new, (x, v) -> x.end(v), v -> v);
        range(said + "n of 1", 0, 1, NONE, () -> taped("a"), (x, v) -> x.end(v), v -> v);
        range(said + "n of 27", 0, 27, NONE, () -> withBytes(27), (x, v) -> x.end(v), v -> v);
        range(said + "n of 300", 0, 300, NONE, () -> withBytes(300), (x, v) -> x.end(v), v -> v);
        range(said + "then there are n", 0, 27, NONE, () -> withBytes(27),
                (x, v) -> x.end(v) < 0 ? NONE : x.about(5), v -> v);
        WarrantWeather x = withBytes(27);
        x.end(7);
        is("those behind are gone", x.end(8), NONE);
        is("its first alone", x.text(), 0);
        WarrantWeather y = withBytes(27);
        y.end(6);
        is("one less is another text", y.text() * 100 + y.fault(1), -100 + 6);
    }

    private static void text() {
        sentence(10, "The tape (empty then) is a TEXT: its number.");
        WarrantWeather x = new WarrantWeather();
        for (int number = 0; number < 4; number++) {
            is("if there are " + number, text(x, "gain " + number + ";"), number);
            is("empty then", x.about(5), 0);
        }
        sentence(10, "NONE: it has a FAULT; or (the tape stays) there are 4.");
        for (String fifth : new String[] {"", "gain 4;", "gain !;"}) {
            WarrantWeather full = withTexts(4);
            tape(full, fifth);
            changesNothing(said + "'" + fifth + "'", full, WarrantWeather::text, NONE);
        }
        tape(x, "gain !;");
        is("no fifth", x.text(), NONE);
        x.back();
        is("the tape stayed, and is read now", x.text() * 100 + x.fault(1), -100 + 5);
        is("empty with a fault, too", x.about(5), 0);
        is("no text came", x.about(2), 0);
        WarrantWeather z = new WarrantWeather();
        for (int i = 0; i < 3; i++) {
            text(z, "gain 1;");
        }
        is("with a fault there may be more", text(z, "gain !;"), NONE);
        is("a fourth", text(z, "gain 1;"), 3);
        is("and no fifth", text(z, "gain 1;"), NONE);
    }

    private static WarrantWeather faulty() {
        WarrantWeather x = new WarrantWeather();
        text(x, "gain 1+10000;");
        return x;
    }

    private static void fault() {
        sentence(11, "Of the latest text that was read: 0 its FAULT (0 without), 1 its place (NONE without).");
        WarrantWeather x = faulty();
        is("fault", x.fault(0), 2);
        is("place", x.fault(1), 7);
        text(x, "fine 1; fine 2;");
        is("of the latest", x.fault(0) * 10 + x.fault(1), 48);
        text(x, "!");
        is("at the first byte", x.fault(0) * 10 + x.fault(1), 10);
        text(x, "gain 1;");
        is("0 without", x.fault(0), 0);
        is("NONE without", x.fault(1), NONE);
        sentence(11, "NONE for others, and ahead of any.");
        refusedBeyond(said + "what", 0, 1, NONE, PromiseEdgeTests::faulty, (y, v) -> y.fault(v));
        refusedBeyond(said + "what, without", 0, 1, NONE, () -> ruledBy("gain 1;"), (y, v) -> y.fault(v));
        for (int what = -1; what <= 2; what++) {
            is("ahead of any: " + what, new WarrantWeather().fault(what), NONE);
            is("with a tape alone: " + what, taped("gain 1;").fault(what), NONE);
        }
    }

    private static WarrantWeather withTexts(int count) {
        WarrantWeather x = new WarrantWeather();
        for (int i = 0; i < count; i++) {
            text(x, "gain " + (i + 5) + ";");
        }
        x.folk(0, 0, 0);
        return x;
    }

    private static void by() {
        sentence(12, "THE TEXT (NONE: none): true. False for others.");
        for (int texts = 0; texts <= 4; texts++) {
            int count = texts;
            range(said + "of " + texts, NONE, texts - 1, 0, () -> withTexts(count), (x, v) -> one(x.by(v)), v -> 1);
            range(said + "rules, of " + texts, NONE, texts - 1, -9, () -> withTexts(count),
                    (x, v) -> x.by(v) ? 10 * x.gain(0, 0, false) + x.about(3) : -9, v -> v < 0 ? -1 : 10 * (v + 5) + v);
        }
        WarrantWeather x = withTexts(2);
        x.by(1);
        is("NONE takes it away", x.by(NONE), true);
        is("none", x.about(3), NONE);
        is("nothing is gained", x.gain(0, 0, false), 0);
    }

    private static WarrantWeather allWet() {
        WarrantWeather x = ruledBy("warrant 1=1;");
        x.decree(5, 2, true);
        return x;
    }

    private static void warrant() {
        sentence(13, "NONE for others, and without a warrant.");
        Supplier<WarrantWeather> scene = PromiseEdgeTests::allWet;
        range(said + "from", 0, 6, NONE, scene, (x, v) -> x.warrant(v, 6), v -> 4 * (7 - v) - (v < 6 ? 1 : 0));
        range(said + "from, to the end", 0, 29, NONE, scene, (x, v) -> x.warrant(v, 29),
                v -> 4 * (30 - v) - (v < 6 ? 1 : 0));
        range(said + "to", 24, 29, NONE, scene, (x, v) -> x.warrant(24, v), v -> 4 * (v - 23));
        range(said + "one day", 0, 29, NONE, scene, (x, v) -> x.warrant(v, v), v -> v == 5 ? 3 : 4);
        changesNothing(said + "from above to", allWet(), x -> x.warrant(7, 6), NONE);
        changesNothing(said + "without a text", new WarrantWeather(), x -> x.warrant(0, 29), NONE);
        changesNothing(said + "a text without", ruledBy("does 1=1; gain 1;"), x -> x.warrant(0, 29), NONE);
        WarrantWeather x = allWet();
        x.by(NONE);
        changesNothing(said + "a text that doesn't rule", x, y -> y.warrant(0, 29), NONE);
    }

    private static void letGo() {
        sentence(14, "NONE without a warrant.");
        is("no text", new WarrantWeather().letGo(), NONE);
        is("an empty text", ruledBy("").letGo(), NONE);
        is("all others", ruledBy("does sky>1; gain sky; fine 1; appeal sky=1; toll 1;").letGo(), NONE);
        is("a warrant with others", ruledBy("does sky>1; warrant 1=1; gain sky;").letGo(), 0);
        is("a warrant alone", ruledBy("warrant sky=1;").letGo(), 1);
        WarrantWeather x = ruledBy("warrant sky=1;");
        x.by(NONE);
        is("that doesn't rule", x.letGo(), NONE);
    }

    private static void undo() {
        sentence(15, "NONE: there is no STEP.");
        changesNothing(said + "at first", new WarrantWeather(), WarrantWeather::undo, NONE);
        WarrantWeather x = new WarrantWeather();
        x.decree(0, 0, false);
        changesNothing(said + "a decree that is the same", x, WarrantWeather::undo, NONE);
        WarrantWeather y = new WarrantWeather();
        y.decree(0, 0, true);
        is("one", y.undo(), 0);
        changesNothing(said + "none any more", y, WarrantWeather::undo, NONE);
        WarrantWeather z = new WarrantWeather();
        z.decree(29, 3, true);
        is("the last of all", z.undo(), 293);
        z.decree(1, 0, true);
        z.back();
        is("gone by going back", z.undo(), NONE);
    }

    /** Skies by the day's last digit; wet in a province on days from 7 times it on. */
    private static WarrantWeather manyDays() {
        WarrantWeather x = ruledBy("does sky>4 and fear>0; fine 3; appeal hats>1; warrant day>=7*province;");
        for (int day = 0; day < 30; day++) {
            x.sky(day, day % 10);
        }
        x.warrant(0, 29);
        x.folk(3, 0, 1);
        x.folk(3, 0, 0);
        x.folk(3, 0, 2);
        return x;
    }

    private static void of() {
        sentence(16, "NONE for others.");
        Supplier<WarrantWeather> scene = PromiseEdgeTests::manyDays;
        range(said + "day, sky", 0, 29, NONE, scene, (x, v) -> x.of(v, 1, 0), v -> v % 10);
        range(said + "day, decree", 0, 29, NONE, scene, (x, v) -> x.of(v, 1, 1), v -> v < 7 ? 0 : 1);
        range(said + "day, who do", 0, 29, NONE, scene, (x, v) -> x.of(v, 3, 2), v -> v % 10 < 5 ? 0 : 2);
        range(said + "province, sky", 0, 3, NONE, scene, (x, v) -> x.of(13, v, 0), v -> 3);
        range(said + "province, decree", 0, 3, NONE, scene, (x, v) -> x.of(13, v, 1), v -> v < 2 ? 1 : 0);
        range(said + "province, who do", 0, 3, NONE, scene, (x, v) -> x.of(15, v, 2), v -> v < 3 ? 0 : 2);
        range(said + "what", 0, 2, NONE, scene, (x, v) -> x.of(29, 3, v), v -> new int[] {9, 1, 2}[v]);
    }

    private static void on() {
        sentence(17, "NONE for others.");
        Supplier<WarrantWeather> scene = PromiseEdgeTests::manyDays;
        range(said + "who", 0, 2, NONE, scene, (x, v) -> x.on(v, 5, 0), v -> v == 1 ? 0 : 1);
        range(said + "who, fine", 0, 2, NONE, scene, (x, v) -> x.on(v, 4, 1), v -> 3);
        range(said + "who, appeal", 0, 2, NONE, scene, (x, v) -> x.on(v, 5, 2), v -> 1);
        range(said + "who of 12", 0, 11, NONE, () -> withFolk(12), (x, v) -> x.on(v, 0, 0), v -> 0);
        range(said + "day", 0, 29, NONE, scene, (x, v) -> x.on(2, v, 0), v -> v % 10 < 5 ? 0 : 1);
        range(said + "day, fine", 0, 29, NONE, scene, (x, v) -> x.on(1, v, 1), v -> v % 10 < 5 ? 3 : 0);
        range(said + "what", 0, 2, NONE, scene, (x, v) -> x.on(0, 29, v), v -> new int[] {1, 0, 1}[v]);
        for (int what = 0; what <= 2; what++) {
            is("without folk " + what, ruledBy("does 1=1;").on(0, 0, what), NONE);
        }
    }

    private static WarrantWeather gainers(int count) {
        WarrantWeather x = ruledBy("gain 100*trade+day+wet*50; warrant 1=1;");
        for (int i = 0; i < count; i++) {
            x.folk(i % 4, i % 10, 0);
        }
        x.warrant(0, 29);
        return x;
    }

    private static void gain() {
        sentence(18, "-100000 for others.");
        for (int folk : new int[] {1, 2, 12}) {
            range(said + "who of " + folk, 0, folk - 1, -100000, () -> gainers(folk), (x, v) -> x.gain(v, 9, false),
                    v -> 100 * (v % 10) + 9);
            range(said + "who of " + folk + " by paper", 0, folk - 1, -100000, () -> gainers(folk),
                    (x, v) -> x.gain(v, 9, true), v -> 100 * (v % 10) + 59);
        }
        range(said + "day", 0, 29, -100000, () -> gainers(3), (x, v) -> x.gain(2, v, false), v -> 200 + v);
        range(said + "day by paper", 0, 29, -100000, () -> gainers(3), (x, v) -> x.gain(2, v, true), v -> 250 + v);
        is("without folk", gainers(0).gain(0, 0, false), -100000);
        is("NONE is nobody", gainers(2).gain(NONE, 0, true), -100000);
    }

    private static void sum() {
        sentence(19, "GAINS of one of the FOLK (NONE: of all) on DAYS from to to, together. -100000000 for others.");
        range(said + "who", NONE, 2, NO_SUM, () -> gainers(3), (x, v) -> x.sum(v, 3, 4, false),
                v -> v == NONE ? 621 : 200 * v + 7);
        range(said + "who by paper", NONE, 2, NO_SUM, () -> gainers(3), (x, v) -> x.sum(v, 3, 4, true),
                v -> v == NONE ? 921 : 200 * v + 107);
        range(said + "of nobody", NONE, NONE, NO_SUM, () -> gainers(0), (x, v) -> x.sum(v, 0, 29, false), v -> 0);
        range(said + "of 12", NONE, 11, NO_SUM, () -> gainers(12), (x, v) -> x.sum(v, 0, 0, false),
                v -> v == NONE ? 4600 : 100 * (v % 10));
        range(said + "from", 0, 5, NO_SUM, () -> gainers(1), (x, v) -> x.sum(0, v, 5, false), v -> 15 - v * (v - 1) / 2);
        range(said + "to", 26, 29, NO_SUM, () -> gainers(1), (x, v) -> x.sum(0, 26, v, false),
                v -> new int[] {26, 53, 81, 110}[v - 26]);
        range(said + "one day", 0, 29, NO_SUM, () -> gainers(1), (x, v) -> x.sum(NONE, v, v, false), v -> v);
        is("from one above to", gainers(1).sum(0, 6, 5, false), NO_SUM);
        is("from one above to, of all", gainers(1).sum(NONE, 29, 28, true), NO_SUM);
    }

    /** Of these folk the first so many are ruined. */
    private static WarrantWeather poor(int count, int ruined) {
        WarrantWeather x = ruledBy("gain -trade;");
        for (int i = 0; i < count; i++) {
            x.folk(i % 4, i < ruined ? 1 : 0, 0);
        }
        return x;
    }

    private static void ruined() {
        sentence(20, "RUINED: how many (i NONE), the i-th. NONE if there is none such, and for others.");
        for (int ruined : new int[] {0, 1, 2, 11, 12}) {
            range(said + ruined + " ruined", NONE, ruined - 1, NONE, () -> poor(12, ruined), (x, v) -> x.ruined(v),
                    v -> v == NONE ? ruined : v);
        }
        WarrantWeather x = ruledBy("gain trade-5;");
        x.folk(0, 9, 0);
        x.folk(0, 4, 0);
        x.folk(3, 5, 0);
        x.folk(2, 0, 0);
        is("the first", x.ruined(0), 1);
        is("the second", x.ruined(1), 3);
        is("no third", x.ruined(2), NONE);
        is("how many", x.ruined(NONE), 2);
        is("no such number", x.ruined(-2), NONE);
    }

    private static WarrantWeather leading() {
        WarrantWeather x = ruledBy("gain decree*trade*(day/28);");
        x.folk(0, 3, 0);
        x.folk(1, 0, 0);
        x.folk(3, 7, 0);
        return x;
    }

    private static void led() {
        sentence(21, "NONE: none, and for others.");
        Supplier<WarrantWeather> scene = PromiseEdgeTests::leading;
        range(said + "who, day", 0, 2, NONE, scene, (x, v) -> x.led(v, 0), v -> v == 1 ? NONE : 28);
        range(said + "who, how much", 0, 2, NONE, scene, (x, v) -> x.led(v, 1), v -> new int[] {3, NONE, 7}[v]);
        range(said + "what", 0, 1, NONE, scene, (x, v) -> x.led(2, v), v -> new int[] {28, 7}[v]);
        is("none: no day", leading().led(1, 0), NONE);
        is("none: not how much", leading().led(1, 1), NONE);
        is("without folk", ruledBy("gain decree;").led(0, 0), NONE);
        is("without a text", withFolk(1).led(0, 0), NONE);
    }

    /** One who does by a sky of 7 or more; by the day's sky it does on day 29 alone. */
    private static WarrantWeather doing() {
        WarrantWeather x = ruledBy("does sky>6;", 1, 2, 0, 0);
        x.sky(29, 7);
        return x;
    }

    private static void odds() {
        sentence(22, "NONE: none, and for others.");
        Supplier<WarrantWeather> scene = PromiseEdgeTests::doing;
        range(said + "day, upper", 0, 29, NONE, scene, (x, v) -> x.odds(v, 2, 0), v -> v < 29 ? 2 : 1);
        range(said + "day, lower", 0, 29, NONE, scene, (x, v) -> x.odds(v, 2, 1), v -> v < 29 ? 7 : 1);
        range(said + "province", 0, 3, NONE, scene, (x, v) -> x.odds(0, v, 1), v -> v == 2 ? 7 : 2);
        range(said + "what", 0, 1, NONE, scene, (x, v) -> x.odds(0, 2, v), v -> new int[] {2, 7}[v]);
        WarrantWeather x = doing();
        for (int sky = 7; sky <= 9; sky++) {
            x.chance(sky, 0);
        }
        is("none: no upper", x.odds(29, 2, 0), NONE);
        is("none: no lower", x.odds(29, 2, 1), NONE);
        is("but by others", x.odds(28, 2, 0) * 10 + x.odds(28, 2, 1), 27);
        x.chance(8, 1);
        is("one chance is some", x.odds(29, 2, 0) * 10 + x.odds(29, 2, 1), 11);
    }

    /** Wet is worth 2, on each day, in provinces 0 and 3. */
    private static WarrantWeather planned() {
        WarrantWeather x = ruledBy("gain decree*2;");
        x.folk(0, 0, 0);
        x.folk(3, 0, 0);
        return x;
    }

    private static void plan() {
        sentence(23, "PLAN: the DECREE of the i-th of its DAYS (i NONE: all together that is gained). "
                + "-100000000 for others.");
        Supplier<WarrantWeather> scene = PromiseEdgeTests::planned;
        range(said + "province", 0, 3, NO_SUM, scene, (x, v) -> x.plan(v, 0, 5, NONE), v -> v % 3 == 0 ? 10 : 0);
        range(said + "from, n 1", 0, 29, NO_SUM, scene, (x, v) -> x.plan(0, v, 1, NONE), v -> 2);
        range(said + "from, n 2", 0, 28, NO_SUM, scene, (x, v) -> x.plan(0, v, 2, NONE), v -> 4);
        range(said + "from, n 10", 0, 20, NO_SUM, scene, (x, v) -> x.plan(3, v, 10, 9), v -> 1);
        range(said + "n from 0", 1, 10, NO_SUM, scene, (x, v) -> x.plan(0, 0, v, NONE), v -> 2 * v);
        range(said + "n from 20", 1, 10, NO_SUM, scene, (x, v) -> x.plan(0, 20, v, NONE), v -> 2 * v);
        range(said + "n from 21", 1, 9, NO_SUM, scene, (x, v) -> x.plan(0, 21, v, NONE), v -> 2 * v);
        range(said + "n from 29", 1, 1, NO_SUM, scene, (x, v) -> x.plan(0, 29, v, NONE), v -> 2);
        range(said + "i of 1", NONE, 0, NO_SUM, scene, (x, v) -> x.plan(0, 8, 1, v), v -> v == NONE ? 2 : 1);
        range(said + "i of 9", NONE, 8, NO_SUM, scene, (x, v) -> x.plan(0, 8, 9, v), v -> v == NONE ? 18 : 1);
        range(said + "i of 10", NONE, 9, NO_SUM, scene, (x, v) -> x.plan(0, 8, 10, v), v -> v == NONE ? 20 : 1);
        changesNothing(said + "a plan", planned(), x -> x.plan(0, 20, 10, NONE), 20);
    }

    /** Found out in every province, in each on another day: day 0 is the first earlier one. */
    private static WarrantWeather caught() {
        WarrantWeather x = new WarrantWeather();
        for (int province = 0; province < 4; province++) {
            x.decree(10 + province, province, true);
        }
        return x;
    }

    private static void found() {
        sentence(24, "NONE: none, and for others.");
        Supplier<WarrantWeather> scene = PromiseEdgeTests::caught;
        range(said + "province, day", 0, 3, NONE, scene, (x, v) -> x.found(v, 0), v -> 10 + v);
        range(said + "province, earlier one", 0, 3, NONE, scene, (x, v) -> x.found(v, 1), v -> 0);
        range(said + "what", 0, 1, NONE, scene, (x, v) -> x.found(3, v), v -> new int[] {13, 0}[v]);
        for (int province = 0; province < 4; province++) {
            is("none: no day", new WarrantWeather().found(province, 0), NONE);
            is("none: no earlier one", new WarrantWeather().found(province, 1), NONE);
        }
    }

    private static void even() {
        sentence(25, "EVEN: how many (i NONE), the i-th by number. NONE if there is none such, and for others.");
        range(said + "day", 0, 29, NONE, WarrantWeather::new, (x, v) -> x.even(v, 15), v -> 15);
        range(said + "day, how many", 0, 29, NONE, WarrantWeather::new, (x, v) -> x.even(v, NONE), v -> 16);
        range(said + "i of 16", NONE, 15, NONE, WarrantWeather::new, (x, v) -> x.even(0, v), v -> v == NONE ? 16 : v);
        range(said + "i of 2", NONE, 1, NONE, () -> ruledBy("toll -others;"), (x, v) -> x.even(0, v),
                v -> new int[] {2, 0, 15}[v + 1]);
        range(said + "i of 1", NONE, 0, NONE, () -> ruledBy("toll mine;"), (x, v) -> x.even(29, v),
                v -> new int[] {1, 15}[v + 1]);
        // 0 would be as 1 is, 1 would not be as 0 is; 2 stays sunny and 3 wet.
        String odd = "toll (2*province-1)*others+province/2*(2*province-5)*100*mine;";
        range(said + "i of none", NONE, NONE, NONE, () -> ruledBy(odd), (x, v) -> x.even(0, v), v -> 0);
        is("the first of none", ruledBy(odd).even(0, 0), NONE);
    }

    private static WarrantWeather flooded(int days) {
        WarrantWeather x = ruledBy("warrant 1=1;");
        for (int day = 30 - days; day < 30; day++) {
            x.warrant(day, day);
        }
        return x;
    }

    private static void flood() {
        sentence(26, "FLOODS: how many (i NONE), the i-th. NONE if there is none such, and for others.");
        for (int days : new int[] {0, 1, 2, 29, 30}) {
            range(said + days + " floods", NONE, days - 1, NONE, () -> flooded(days), (x, v) -> x.flood(v),
                    v -> v == NONE ? days : 30 - days + v);
        }
        is("the first of none", new WarrantWeather().flood(0), NONE);
        is("no such number", flooded(3).flood(-2), NONE);
    }

    private static void reform() {
        sentence(27, "NONE: none, and for others.");
        range(said + "what", 0, 1, NONE, () -> ruledBy("gain 1; fine 2;", 1, 0, 0, 0), (x, v) -> x.reform(v),
                v -> new int[] {1, 60}[v]);
        for (int what = 0; what <= 1; what++) {
            is("none, without a text", withFolk(1).reform(what), NONE);
            is("none, without folk", ruledBy("gain -1;").reform(what), NONE);
            is("none, of no clause", ruledBy("", 1, 0, 0, 0).reform(what), NONE);
            is("none that helps", ruledBy("gain 0; fine 0;", 1, 0, 0, 0).reform(what), NONE);
        }
    }

    /** So many words of one vowel each. */
    private static String words(int count) {
        return "a ".repeat(count).strip();
    }

    private static void sing() {
        sentence(28, "SKIES are so; how many DAYS; the tape is empty then.");
        for (int count : new int[] {1, 2, 29, 30}) {
            range(said + "day, words " + count, 0, 30 - count, NONE, () -> taped(words(count)),
                    (x, v) -> x.sing(v, 0), v -> count);
            range(said + "then, words " + count, 0, 30 - count, NONE, () -> taped(words(count)),
                    (x, v) -> x.sing(v, 6) < 0 ? NONE : 100 * x.about(6) + 10 * x.of(v, 0, 0) + x.about(5),
                    v -> 100 * count + 70);
        }
        range(said + "key", 0, 9, NONE, () -> taped("aa"), (x, v) -> x.sing(29, v), v -> 1);
        range(said + "key, sky", 0, 9, NONE, () -> taped("aa"), (x, v) -> x.sing(29, v) < 0 ? NONE : x.of(29, 0, 0),
                v -> (v + 2) % 10);
        sentence(28, "NONE for others, if it is none, or tells of DAYS above 29 (the tape stays).");
        for (String none : new String[] {"", " ", "  ", "ab1", "A", "ab\ncd", words(31)}) {
            for (int day : new int[] {0, 29}) {
                changesNothing(said + "'" + none + "'", taped(none), x -> x.sing(day, 0), NONE);
            }
        }
        changesNothing(said + "to day 30", taped("a b c"), x -> x.sing(28, 0), NONE);
        WarrantWeather x = taped("a b c");
        x.sing(28, 0);
        is("the tape stayed as it was", x.sing(27, 0), 3);
    }

    private static void heard() {
        sentence(29, "Of how many DAYS the SONG tells the SKY as it is (the tape stays).");
        for (int count : new int[] {1, 2, 29, 30}) {
            range(said + "day, words " + count, 0, 30 - count, NONE, () -> taped(words(count)),
                    (x, v) -> x.heard(v, 9), v -> count);
            range(said + "none, words " + count, 0, 30 - count, NONE, () -> taped(words(count)),
                    (x, v) -> x.heard(v, 8), v -> 0);
        }
        range(said + "key", 0, 9, NONE, () -> taped("aa b"), (x, v) -> x.heard(28, v),
                v -> v == 0 || v == 8 ? 1 : 0);
        changesNothing(said + "heard", taped("aa b"), x -> x.heard(28, 0), 1);
        sentence(29, "NONE as above.");
        for (String none : new String[] {"", " ", "ab1", "A", "ab\ncd", words(31)}) {
            for (int day : new int[] {0, 29}) {
                changesNothing(said + "'" + none + "'", taped(none), x -> x.heard(day, 0), NONE);
            }
        }
        changesNothing(said + "to day 30", taped("a b c"), x -> x.heard(28, 0), NONE);
    }

    private static void image() {
        sentence(30, "THE IMAGE is as all is now: how many FOLK there are.");
        for (int folk : new int[] {0, 1, 11, 12}) {
            changesNothing(said + folk, withFolk(folk), WarrantWeather::image, folk);
        }
        WarrantWeather x = busy();
        x.image();
        String then = all(x);
        x.folk(2, 2, 2);
        x.image();
        x.back();
        is("the later one is the image", all(x).equals(then), false);
    }

    private static void back() {
        sentence(31, "All is as at THE IMAGE again (it stays): how many FOLK there are.");
        for (int folk : new int[] {0, 1, 11, 12}) {
            WarrantWeather x = withFolk(folk);
            x.image();
            x.folk(0, 0, 0);
            is("folk " + folk, x.back(), folk);
            x.folk(3, 3, 3);
            is("it stays " + folk, x.back(), folk);
            is("no more of them " + folk, x.about(20 + folk), -2);
        }
    }

    private static void about() {
        sentence(32, "0 FOLK, 1 RUIN, 2 TEXTS, 3 THE TEXT (NONE), 4 STEPS that can be TAKEN BACK, 5 bytes of the tape, "
                + "6 DAYS that are truly wet, 7 DECREES that are wet, 10 + s: CHANCE of SKY s, "
                + "20 + who: 100 PROVINCE + 10 TRADE + FEAR. -2 for others.");
        int[] first = {0, 0, 0, NONE, 0, 0, 0, 0};
        range(said + "what, at first", 0, 7, -2, WarrantWeather::new, (x, v) -> x.about(v), v -> first[v]);
        long wet = wetOnes(drawn(17));
        long[] then = {2, 7, 2, 1, 2, 5, wet, 2};
        WarrantWeather x = busy();
        for (int what = 0; what <= 7; what++) {
            is("what " + what, x.about(what), then[what]);
        }
        for (int what : new int[] {LEAST, -2, -1, 8, 9, 22, 31, 32, 33, MOST}) {
            changesNothing(said + "what " + what, busy(), y -> y.about(what), -2);
        }
        is("chance of 0", x.about(10), 1);
        is("chance of 3", x.about(13), 4);
        is("chance of 9", x.about(19), 1);
        is("who 0", x.about(20), 15);
        is("who 1", x.about(21), 120);
        for (int folk : new int[] {0, 1, 11, 12}) {
            for (int who = 0; who < folk; who++) {
                is("who " + who, withFolk(folk).about(20 + who), 100 * (who % 4) + 10 * (who % 10) + 9 - who % 10);
            }
            is("no more than " + folk, withFolk(folk).about(20 + folk), -2);
        }
    }

    public static void main(String[] args) throws IOException {
        document = new Document();
        newObject();
        folk();
        sky();
        skies();
        decree();
        chance();
        ruin();
        feed();
        end();
        text();
        fault();
        by();
        warrant();
        letGo();
        undo();
        of();
        on();
        gain();
        sum();
        ruined();
        led();
        odds();
        plan();
        found();
        even();
        flood();
        reform();
        sing();
        heard();
        image();
        back();
        about();
        for (String left : document.unquoted("Promise ")) {
            due("no test for " + left, 0, 1);
        }
        tellAll();
    }
}

/** Each promise of the document by answers worked out by hand: ordinary calls, edges, wrong inputs. */
public final class PromiseTests extends Checks {
    private static void due(int promise, String what, long got, long want) {
        due("promise " + promise + ", " + what, got, want);
    }

    private static void due(int promise, String what, boolean got, boolean want) {
        due("promise " + promise + ", " + what, got, want);
    }

    private static void newObject() {
        WarrantWeather x = new WarrantWeather();
        due(1, "no folk", x.about(0), 0);
        due(1, "skies are 0", x.about(6), 0);
        due(1, "sky of a day", x.of(29, 3, 0), 0);
        due(1, "decrees are sunny", x.about(7), 0);
        due(1, "chances are 1", x.about(10) + 10 * x.about(19), 11);
        due(1, "ruin is 0", x.about(1), 0);
        due(1, "no text", x.about(2), 0);
        due(1, "the text", x.about(3), NONE);
        due(1, "no step", x.about(4), 0);
        due(1, "the tape is empty", x.about(5), 0);
        due(1, "no fault", x.fault(0), NONE);
        x.folk(0, 0, 0);
        x.sky(3, 9);
        x.decree(3, 1, true);
        x.chance(2, 7);
        x.ruin(5);
        due(1, "the image is the new object", x.back(), 0);
        due(1, "sky", x.about(6), 0);
        due(1, "decree", x.about(7), 0);
        due(1, "chance", x.about(12), 1);
        due(1, "ruin", x.about(1), 0);
        due(1, "step", x.undo(), NONE);
        due(1, "NONE", WarrantWeather.NONE, -1);
    }

    private static void folk() {
        WarrantWeather x = new WarrantWeather();
        int[][] others = {{-1, 0, 0}, {4, 0, 0}, {0, -1, 0}, {0, 10, 0}, {0, 0, -1}, {0, 0, 10},
            {LEAST, 0, 0}, {0, MOST, 0}};
        for (int[] o : others) {
            due(2, "others", x.folk(o[0], o[1], o[2]), NONE);
        }
        due(2, "none came", x.about(0), 0);
        for (int i = 0; i < 12; i++) {
            due(2, "its number", x.folk(i % 4, i % 10, 9 - i % 10), i);
        }
        due(2, "the 13th", x.folk(0, 0, 0), NONE);
        due(2, "there are 12", x.about(0), 12);
        due(2, "its entry", x.about(27), 372);
    }

    private static void sky() {
        WarrantWeather x = new WarrantWeather();
        due(3, "first", x.sky(0, 9), true);
        due(3, "last", x.sky(29, 5), true);
        due(3, "just not wet", x.sky(28, 4), true);
        due(3, "as told", x.of(0, 0, 0) * 100 + x.of(29, 3, 0) * 10 + x.of(28, 1, 0), 954);
        due(3, "truly wet", x.about(6), 2);
        due(3, "day below", x.sky(-1, 0), false);
        due(3, "day above", x.sky(30, 0), false);
        due(3, "sky below", x.sky(0, -1), false);
        due(3, "sky above", x.sky(0, 10), false);
        due(3, "as it was", x.of(0, 0, 0), 9);
        due(3, "no step", x.about(4), 0);
    }

    private static void skies() {
        WarrantWeather x = new WarrantWeather();
        due(4, "seed 0", x.skies(0), 15);
        // X: 7, 1692, 2490, 7590, 20469, 7376.
        int[] drawn = {7, 2, 0, 0, 9, 6};
        for (int day = 0; day < drawn.length; day++) {
            due(4, "sky of day " + day, x.of(day, 0, 0), drawn[day]);
        }
        due(4, "below", x.skies(-1), NONE);
        due(4, "above", x.skies(10000), NONE);
        due(4, "as they were", x.of(0, 0, 0), 7);
        // X: 109996, then 25629129 mod 30139, which is 10979.
        int wet = x.skies(9999);
        due(4, "how many", wet, x.about(6));
        due(4, "day 0 of 9999", x.of(0, 0, 0), 6);
        due(4, "day 1 of 9999", x.of(1, 0, 0), 9);
    }

    private static void decree() {
        WarrantWeather x = new WarrantWeather();
        due(5, "first", x.decree(0, 0, true), true);
        due(5, "last", x.decree(29, 3, true), true);
        due(5, "wet", x.of(29, 3, 1), 1);
        due(5, "of others not", x.of(29, 2, 1) + x.of(28, 3, 1), 0);
        due(5, "two", x.about(7), 2);
        due(5, "day below", x.decree(-1, 3, true), false);
        due(5, "day above", x.decree(30, 0, true), false);
        due(5, "province below", x.decree(1, -1, true), false);
        due(5, "province above", x.decree(1, 4, true), false);
        due(5, "nothing came", x.about(7) * 10 + x.about(4), 22);
        due(5, "sunny", x.decree(0, 0, false), true);
        due(5, "is so", x.of(0, 0, 1), 0);
        due(5, "the same again", x.decree(0, 0, false), true);
        due(5, "steps", x.about(4), 3);
    }

    private static void chance() {
        WarrantWeather x = new WarrantWeather();
        due(6, "least", x.chance(0, 0), true);
        due(6, "most", x.chance(9, 9), true);
        due(6, "as told", x.about(10) * 10 + x.about(19), 9);
        due(6, "sky below", x.chance(-1, 0), false);
        due(6, "sky above", x.chance(10, 0), false);
        due(6, "chance below", x.chance(1, -1), false);
        due(6, "chance above", x.chance(1, 10), false);
        due(6, "as it was", x.about(11), 1);
    }

    private static void ruin() {
        WarrantWeather x = new WarrantWeather();
        due(7, "most", x.ruin(9999), true);
        due(7, "as told", x.about(1), 9999);
        due(7, "below", x.ruin(-1), false);
        due(7, "above", x.ruin(10000), false);
        due(7, "as it was", x.about(1), 9999);
        due(7, "least", x.ruin(0), true);
        due(7, "is 0", x.about(1), 0);
    }

    private static void feed() {
        WarrantWeather x = new WarrantWeather();
        // "gain" "1234" ";   " twice blank: the highest byte first, a first.
        due(8, "twenty", x.feed(0x6761696e, 0x31323334, 0x3b202020, 0x20202020, 0x20202020), 20);
        due(8, "a text", x.text(), 0);
        x.by(0);
        x.folk(0, 0, 0);
        due(8, "in that order", x.gain(0, 0, false), 1234);
        for (int i = 1; i <= 15; i++) {
            due(8, "how many", x.feed(-1, -1, -1, -1, -1), 20 * i);
        }
        due(8, "more than 300", x.feed(0, 0, 0, 0, 0), NONE);
        due(8, "none came", x.about(5), 300);
        x.end(281);
        due(8, "281 and 20", x.feed(0, 0, 0, 0, 0), NONE);
        due(8, "none came", x.about(5), 281);
        x.end(280);
        due(8, "280 and 20", x.feed(0, 0, 0, 0, 0), 300);
    }

    private static void end() {
        WarrantWeather x = new WarrantWeather();
        due(9, "of nothing", x.end(0), 0);
        due(9, "one too many", x.end(1), NONE);
        tape(x, "gain 5; xxxxxxxxxxx");
        due(9, "all of it", x.end(19), 19);
        due(9, "too many", x.end(20), NONE);
        due(9, "below", x.end(-1), NONE);
        due(9, "as it was", x.about(5), 19);
        due(9, "some", x.end(7), 7);
        due(9, "has them", x.about(5), 7);
        due(9, "the first ones", x.text(), 0);
    }

    private static void fault(String signs, int kind, int place) {
        WarrantWeather x = new WarrantWeather();
        due(10, "text '" + signs + "'", text(x, signs), kind == 0 ? 0 : NONE);
        due(11, "fault of '" + signs + "'", x.fault(0), kind);
        due(11, "place in '" + signs + "'", x.fault(1), place);
        due(10, "the tape is empty then", x.about(5), 0);
        due(10, "texts", x.about(2), kind == 0 ? 1 : 0);
    }

    private static void text() {
        WarrantWeather x = new WarrantWeather();
        due(10, "an empty one", x.text(), 0);
        due(10, "a second one", text(x, "gain 1;"), 1);
        due(10, "with a fault", text(x, "gain 1"), NONE);
        due(10, "a third one", text(x, "gain 3;"), 2);
        due(10, "a fourth one", text(x, "gain 4;"), 3);
        due(10, "no fifth one", text(x, "gain !;"), NONE);
        due(10, "the tape stays", x.about(5), 7);
        due(11, "it wasn't read", x.fault(0), 0);
        due(10, "four texts", x.about(2), 4);
        due(10, "none rules yet", x.about(3), NONE);
        WarrantWeather y = new WarrantWeather();
        due(10, "of 300 bytes", text(y, " gain 1" + "+1".repeat(146) + ";"), 0);
        y.by(0);
        y.folk(0, 0, 0);
        due(10, "and all of it counts", y.gain(0, 0, false), 147);
    }

    /** What was read into a TEXT's place ahead of it leaves nothing behind: with a fault, or gone by going back. */
    private static void textInAPlaceUsedBefore() {
        WarrantWeather x = new WarrantWeather();
        x.folk(0, 0, 0);
        for (int i = 0; i < 4; i++) {
            due(10, "long ones with a fault", text(x, "gain 1" + "+1".repeat(147)), NONE);
        }
        due(10, "a long one without", text(x, "gain 1" + "+1".repeat(146) + ";"), 0);
        x.by(0);
        due(18, "all of it counts", x.gain(0, 0, false), 147);
        WarrantWeather y = new WarrantWeather();
        y.folk(0, 0, 0);
        due(10, "with a fault at the end", text(y, "toll 5; warrant sky=1; does 1=1; gain 9; !"), NONE);
        due(10, "of one clause", text(y, "fine 3;"), 0);
        y.by(0);
        due(27, "its number", y.reform(0) * 100 + y.reform(1), 90);
        due(14, "no warrant", y.letGo(), NONE);
        due(18, "no gain", y.gain(0, 0, false), -3);
        due(17, "nor does", y.on(0, 0, 0), 0);
        due(25, "nor toll", y.even(0, NONE), 16);
        WarrantWeather z = new WarrantWeather();
        z.folk(0, 0, 0);
        z.image();
        z.by(text(z, "toll mine; warrant sky=1; does 1=1; gain 9; appeal 1=1; fine 1;"));
        z.back();
        due(31, "gone", z.about(2) * 10 + z.about(3), NONE);
        due(10, "in its place", text(z, "gain -1; fine 3;"), 0);
        due(14, "none rules", z.letGo(), NONE);
        z.by(0);
        due(27, "its number", z.reform(0) * 100 + z.reform(1), 190);
        due(18, "no appeal", z.gain(0, 0, false), -4);
        due(25, "no toll", z.even(0, NONE), 16);
        due(13, "no warrant", z.warrant(0, 29), NONE);
    }

    private static void faultsByGrammar() {
        fault("", 0, NONE);
        fault(" \n ", 0, NONE);
        fault("gain1;fine 2;\ntoll 3 ;", 0, NONE);
        fault("gain 00009999;", 0, NONE);
        fault("gain", 1, 4);
        fault("gain  \n", 1, 7);
        fault("gain 1", 1, 6);
        fault("gain 1;;", 1, 7);
        fault("gain ;", 1, 5);
        fault("gains 1;", 1, 0);
        fault("Gain 1;", 1, 0);
        fault("gain Day;", 1, 5);
        fault("gain dayz;", 1, 5);
        fault("gain dayA;", 1, 5);
        fault("gain dayZ;", 1, 5);
        fault("gain daya;", 1, 5);
        fault("gain day_;", 1, 8);
        fault("gain 1 2;", 1, 7);
        fault("gain 1 20000;", 1, 7);
        fault("gain 1+;", 1, 7);
        fault("gain 1\t;", 1, 6);
        fault("gain 1" + (char) 0 + ";", 1, 6);
        fault("gain " + (char) 200 + ";", 1, 5);
        fault("gain 1<2;", 1, 6);
        fault("gain not 1;", 1, 5);
        fault("gain gain;", 1, 5);
        fault("gain (1;", 1, 7);
        fault("gain 1);", 1, 6);
        fault("gain (1<2);", 1, 7);
        fault("gain +1;", 1, 5);
        fault("gain 1*-2--3;", 0, NONE);
        fault("does 1;", 1, 6);
        fault("does 1<2<3;", 1, 8);
        fault("does 1<=2;", 0, NONE);
        fault("does 1< =2;", 1, 8);
        fault("does 1=<2;", 1, 7);
        fault("does 1<>2;", 1, 7);
        fault("does 1#2 and;", 1, 12);
        fault("does or 1=1;", 1, 5);
        fault("does not not 1=1 and not 2>=2 or 3>4;", 0, NONE);
        fault("does 1 < not 2;", 1, 9);
        fault("does 1=1 toll 2;", 1, 9);
        fault("; gain 1;", 1, 0);
        fault("gain 10000;", 2, 5);
        fault("gain 1+99999999999999999999;", 2, 7);
        fault("gain 4294967297;", 2, 5);
        fault("10000", 1, 0);
        fault("gain 1; fine 2; gain 3;", 4, 16);
        fault("gain 1; gain !", 4, 8);
    }

    private static void faultsOfOpenOnes() {
        fault("gain ((((((((1))))))));", 0, NONE);
        fault("gain (((((((((1)))))))));", 3, 13);
        fault("gain --------1;", 0, NONE);
        fault("gain ---------1;", 3, 13);
        fault("gain -(-(-(-(1))))-(-(-(-(2))));", 0, NONE);
        fault("gain -(-(-(-(-1))));", 3, 13);
        fault("does not not not not not not not not 1=1;", 0, NONE);
        fault("does not not not not not not not not not 1=1;", 3, 37);
        fault("does not not not not not not not -1=-1;", 0, NONE);
        fault("does not not not not not not not 1=-(1);", 3, 36);
        fault("does not not not not not not not not 1=(1);", 3, 39);
        fault("does not not not not not not not not 1=1 and not 2=2;", 0, NONE);
        fault("does not not not not 1=((((1)))) and not not not not ((((1))))=1;", 0, NONE);
        fault("gain 1-2-3-4-5-6-7-8-9-1-2-3;", 0, NONE);
    }

    private static void faultsOfNames() {
        String[] clauses = {"warrant", "does", "gain", "fine", "appeal", "toll"};
        String[][] names = {
            {"day", "111111"}, {"province", "111111"}, {"last", "100000"}, {"seen", "100000"},
            {"sky", "111010"}, {"decree", "011110"}, {"trade", "011110"}, {"fear", "011110"},
            {"act", "001100"}, {"wet", "001000"}, {"hats", "000010"}, {"mine", "000001"}, {"others", "000001"},
        };
        for (String[] name : names) {
            for (int c = 0; c < clauses.length; c++) {
                boolean isOf = name[1].charAt(c) == '1';
                boolean isSum = c == 2 || c == 3 || c == 5;
                fault(clauses[c] + " 1+" + name[0] + (isSum ? ";" : "=1;"), isOf ? 0 : 5,
                        isOf ? NONE : clauses[c].length() + 3);
            }
        }
        fault("fine 1 sky;", 1, 7);
        fault("fine 1+sky !;", 5, 7);
    }

    private static void fault() {
        WarrantWeather x = new WarrantWeather();
        due(11, "ahead of any", x.fault(0), NONE);
        due(11, "ahead of any", x.fault(1), NONE);
        text(x, "gain 10000;");
        due(11, "fault", x.fault(0) * 10 + x.fault(1), 25);
        due(11, "others", x.fault(2), NONE);
        due(11, "others", x.fault(-1), NONE);
        text(x, "gain 1;");
        due(11, "without", x.fault(0), 0);
        due(11, "without", x.fault(1), NONE);
    }

    private static void by() {
        WarrantWeather x = new WarrantWeather();
        due(12, "no such text", x.by(0), false);
        text(x, "gain 1;");
        text(x, "gain 2;");
        x.folk(0, 0, 0);
        due(12, "none rules", x.gain(0, 0, false), 0);
        due(12, "the second", x.by(1), true);
        due(12, "it rules", x.gain(0, 0, false), 2);
        due(12, "no third", x.by(2), false);
        due(12, "below", x.by(-2), false);
        due(12, "as it was", x.about(3), 1);
        due(12, "none", x.by(NONE), true);
        due(12, "none rules", x.gain(0, 0, false), 0);
        due(12, "the text", x.about(3), NONE);
        x.by(0);
        due(12, "the first", x.gain(0, 0, false), 1);
    }

    /** What a gain comes to on day 7, by a sky of 6, decreed wet, for trade 3 and fear 4 in province 2. */
    private static void worth(String sum, int want) {
        WarrantWeather x = ruledBy("gain " + sum + "; does fear=4;");
        x.folk(2, 3, 4);
        x.sky(7, 6);
        x.decree(7, 2, true);
        due(18, sum, x.gain(0, 7, false), want);
    }

    private static void sums() {
        worth("7+2*3", 13);
        worth("7-2-3", 2);
        worth("7-2+3", 8);
        worth("100/7/2", 7);
        worth("100/7*2", 28);
        worth("2*3+4*5-6/2", 23);
        worth("(2+3)*4", 20);
        worth("-7/2", -3);
        worth("7/-2", -3);
        worth("-(7)--7---7", -7);
        worth("7/0", 0);
        worth("7/(3-3)+1", 1);
        worth("9999*9999/9999", 100);
        worth("9999*9999-9999*9999", 0);
        worth("9999*9999+9999*9999-9999*100", 100);
        worth("-9999*9999/1000", -1000);
        worth("-9999*9999-1+9999*99/1", -9999);
        worth("(0-9999*9999-9999)/100", -9999);
        worth("(0-9999*9999-9999)/1000", -1000);
        worth("9999*9999*9999/1000", 1000);
        worth("9999+1", 9999);
        worth("-9999-1", -9999);
        worth("day*1000+province*100+sky*10+decree", 7261);
        worth("trade*1000+fear*100+act*10+wet", 3411);
    }

    /** Whether the same one does it. */
    private static void holds(String either, int want) {
        WarrantWeather x = ruledBy("does " + either + ";");
        x.folk(2, 3, 4);
        x.sky(7, 6);
        due(17, either, x.on(0, 7, 0), want);
    }

    private static void eithers() {
        String[] asked = {"<", "<=", ">", ">=", "=", "#"};
        String[] less = {"1", "1", "0", "0", "0", "1"};
        String[] like = {"0", "1", "0", "1", "1", "0"};
        String[] more = {"0", "0", "1", "1", "0", "1"};
        for (int i = 0; i < asked.length; i++) {
            holds("sky" + asked[i] + "7", less[i].charAt(0) - '0');
            holds("sky" + asked[i] + "6", like[i].charAt(0) - '0');
            holds("sky" + asked[i] + "5", more[i].charAt(0) - '0');
        }
        holds("1=1 or 1=1 and 1=2", 1);
        holds("1=2 and 1=2 or 1=1", 1);
        holds("1=2 and 1=1 or 1=2", 0);
        holds("1=2 or 1=1 and 1=1", 1);
        holds("1=2 or 1=1 and 1=2 or 2=3", 0);
        holds("1=2 or 1=2 or 1=1", 1);
        holds("not 1=2 and 1=2", 0);
        holds("not 2=1", 1);
        holds("not 1=2 and 1=1", 1);
        holds("not 1=1 or 1=1", 1);
        holds("not not 1=1", 1);
        holds("not not not 1=1", 0);
        holds("-(trade)+fear=1 and day=7 and province=2", 1);
    }

    private static void warrant() {
        WarrantWeather x = ruledBy("warrant seen>4 or last=1 and day<4;");
        x.sky(0, 7);
        due(13, "days 0 to 29", x.warrant(0, 29), 12);
        due(13, "day 0 has nothing ahead", x.of(0, 0, 1), 0);
        due(13, "by seen", x.of(1, 0, 1), 1);
        due(13, "by last", x.of(3, 3, 1), 1);
        due(13, "by neither", x.of(4, 0, 1), 0);
        due(13, "again", x.warrant(0, 29), 0);
        due(13, "steps", x.about(4), 12);
        due(13, "province behind province", x.undo(), 33);
        due(13, "province behind province", x.undo(), 32);
        due(13, "one day", x.warrant(3, 3), 2);
        due(13, "from above to", x.warrant(4, 3), NONE);
        due(13, "below", x.warrant(-1, 3), NONE);
        due(13, "above", x.warrant(0, 30), NONE);
        WarrantWeather y = ruledBy("warrant province=2 and sky=9 and day#5;");
        y.sky(5, 9);
        y.sky(6, 9);
        y.decree(6, 1, true);
        due(13, "both ways", y.warrant(0, 10), 2);
        due(13, "wet", y.of(6, 2, 1) * 10 + y.of(6, 1, 1), 10);
        due(13, "last told, not seen first", y.about(7), 1);
        WarrantWeather z = ruledBy("gain 1;");
        due(13, "without a warrant", z.warrant(0, 1), NONE);
        due(13, "without a text", new WarrantWeather().warrant(0, 1), NONE);
    }

    private static void letGo() {
        due(14, "sky", ruledBy("warrant 1=1 or seen>sky;").letGo(), 1);
        due(14, "seen alone", ruledBy("warrant 1=1 or seen>last; does sky>4;").letGo(), 0);
        due(14, "sky behind it", ruledBy("does sky>4; warrant day>4; gain sky;").letGo(), 0);
        due(14, "sky under others", ruledBy("gain 3; warrant not -(sky)=1;").letGo(), 1);
        due(14, "without a warrant", ruledBy("does sky>4;").letGo(), NONE);
        due(14, "without a text", new WarrantWeather().letGo(), NONE);
    }

    private static void undo() {
        WarrantWeather x = new WarrantWeather();
        due(15, "no step", x.undo(), NONE);
        x.decree(29, 3, true);
        x.decree(29, 3, false);
        x.decree(2, 1, true);
        due(15, "the latest", x.undo(), 21);
        due(15, "as it was", x.of(2, 1, 1), 0);
        due(15, "the one ahead", x.undo(), 293);
        due(15, "as it was", x.of(29, 3, 1), 1);
        due(15, "the first", x.undo(), 293);
        due(15, "none left", x.undo(), NONE);
        due(15, "all sunny", x.about(7), 0);
        WarrantWeather y = ruledBy("warrant 1=1;");
        due(15, "120 came to be others", y.warrant(0, 29), 120);
        due(15, "60 of them", y.about(4), 60);
        y.decree(0, 0, false);
        due(15, "60 still", y.about(4), 60);
        due(15, "the latest", y.undo(), 0);
        for (int i = 119; i > 60; i--) {
            due(15, "in turn", y.undo(), 10 * (i / 4) + i % 4);
        }
        due(15, "no more", y.undo(), NONE);
        due(15, "wet ones", y.about(7), 61);
        y.decree(0, 0, false);
        due(15, "a new one", y.undo(), 0);
        due(15, "and no more", y.undo(), NONE);
    }

    private static void of() {
        WarrantWeather x = ruledBy("does trade>2 and decree=1 or sky=9;");
        x.folk(1, 3, 0);
        x.folk(1, 2, 0);
        x.folk(2, 3, 0);
        x.decree(4, 1, true);
        x.sky(4, 6);
        due(16, "sky", x.of(4, 1, 0), 6);
        due(16, "decree", x.of(4, 1, 1), 1);
        due(16, "who do", x.of(4, 1, 2), 1);
        due(16, "elsewhere", x.of(4, 2, 2), 0);
        x.sky(4, 9);
        due(16, "all do", x.of(4, 1, 2), 2);
        due(16, "where nobody is", x.of(4, 0, 2), 0);
        int[][] others = {{-1, 0, 0}, {30, 0, 0}, {0, -1, 1}, {0, 4, 1}, {0, 0, 3}, {0, 0, -1}, {MOST, LEAST, 2}};
        for (int[] o : others) {
            due(16, "others", x.of(o[0], o[1], o[2]), NONE);
        }
        x.by(NONE);
        due(16, "without does", x.of(4, 1, 2), 0);
    }

    private static void on() {
        WarrantWeather x = ruledBy("does sky+fear>5; fine 2000*trade-day*act; appeal hats>1;");
        x.folk(0, 1, 4);
        x.folk(0, 0, 5);
        x.folk(1, 0, 5);
        x.folk(0, 1, 0);
        x.sky(3, 2);
        due(17, "does", x.on(0, 3, 0) * 100 + x.on(1, 3, 0) * 10 + x.on(3, 3, 0), 110);
        due(17, "two hats", x.on(3, 3, 2), 1);
        due(17, "appeal is so", x.on(3, 3, 1), 0);
        due(17, "one hat elsewhere", x.on(2, 3, 2), 0);
        x.sky(3, 1);
        due(17, "one hat", x.on(0, 3, 2), 0);
        due(17, "999 at most", x.on(0, 3, 1), 999);
        due(17, "0 at least", x.on(1, 3, 1), 0);
        int[][] others = {{-1, 0, 0}, {4, 0, 0}, {0, -1, 0}, {0, 30, 0}, {0, 0, -1}, {0, 0, 3}};
        for (int[] o : others) {
            due(17, "others", x.on(o[0], o[1], o[2]), NONE);
        }
        WarrantWeather y = ruledBy("does 1=1; fine act*5+decree;");
        y.folk(0, 0, 0);
        y.decree(1, 0, true);
        due(17, "without appeal", y.on(0, 1, 2), 0);
        due(17, "fine by act and decree", y.on(0, 1, 1), 6);
        y.by(NONE);
        due(17, "without a text", y.on(0, 1, 0) + y.on(0, 1, 1) + y.on(0, 1, 2), 0);
        WarrantWeather z = ruledBy("does trade+fear=6; fine trade*10+fear; appeal trade=1 or fear=9;");
        z.folk(0, 1, 5);
        z.folk(0, 2, 9);
        z.folk(0, 3, 3);
        int[] does = {1, 0, 1};
        int[] appeals = {1, 1, 0};
        int[] fines = {0, 0, 33};
        for (int who = 0; who < 3; who++) {
            due(17, "each by its own: does", z.on(who, 0, 0), does[who]);
            due(17, "each by its own: appeal", z.on(who, 0, 2), appeals[who]);
            due(17, "each by its own: fine", z.on(who, 0, 1), fines[who]);
            due(18, "each by its own: gain", z.gain(who, 0, true), -fines[who]);
        }
    }

    private static void gain() {
        WarrantWeather x = ruledBy("gain wet*100+act; does decree=1; fine 7*decree; appeal sky=8;");
        x.folk(3, 0, 0);
        x.sky(5, 5);
        due(18, "truly wet", x.gain(0, 5, false), 100);
        due(18, "by paper sunny", x.gain(0, 5, true), 0);
        x.sky(6, 4);
        x.decree(6, 3, true);
        due(18, "truly sunny", x.gain(0, 6, false), 1 - 7);
        due(18, "by paper wet", x.gain(0, 6, true), 101 - 7);
        x.sky(6, 8);
        due(18, "appealed", x.gain(0, 6, true), 101);
        WarrantWeather y = ruledBy("gain -9999*2; fine 5000;");
        y.folk(0, 0, 0);
        due(18, "the least", y.gain(0, 0, false), -9999 - 999);
        due(18, "who", y.gain(1, 0, false), -100000);
        due(18, "who", y.gain(-1, 0, false), -100000);
        due(18, "day", y.gain(0, 30, true), -100000);
        due(18, "day", y.gain(0, -1, true), -100000);
        WarrantWeather z = ruledBy("fine 5;");
        z.folk(0, 0, 0);
        due(18, "without gain", z.gain(0, 0, true), -5);
    }

    private static void sum() {
        WarrantWeather x = ruledBy("gain day+1000*trade*wet;");
        x.folk(0, 1, 0);
        x.folk(2, 2, 0);
        x.sky(3, 9);
        x.decree(4, 2, true);
        due(19, "one, truly", x.sum(0, 2, 4, false), 1009);
        due(19, "one, by paper", x.sum(0, 2, 4, true), 9);
        due(19, "another, by paper", x.sum(1, 2, 4, true), 2009);
        due(19, "all, truly", x.sum(NONE, 2, 4, false), 3018);
        due(19, "one day", x.sum(NONE, 29, 29, false), 58);
        due(19, "all days", x.sum(NONE, 0, 29, true), 2870);
        int[][] others = {{2, 0, 0}, {-2, 0, 0}, {0, 1, 0}, {0, -1, 0}, {0, 0, 30}, {NONE, 5, 4}, {NONE, LEAST, MOST}};
        for (int[] o : others) {
            due(19, "others", x.sum(o[0], o[1], o[2], false), -100000000);
        }
        due(19, "of nobody", new WarrantWeather().sum(NONE, 0, 29, false), 0);
    }

    private static void ruined() {
        WarrantWeather x = ruledBy("gain 3*wet-trade;");
        x.folk(0, 1, 0);
        x.folk(1, 0, 0);
        x.folk(2, 2, 0);
        x.decree(0, 0, true);
        due(20, "how many", x.ruined(NONE), 2);
        due(20, "the first", x.ruined(0), 0);
        due(20, "the second", x.ruined(1), 2);
        due(20, "no third", x.ruined(2), NONE);
        due(20, "others", x.ruined(-2), NONE);
        due(20, "others", x.ruined(LEAST), NONE);
        x.ruin(30);
        due(20, "just not", x.ruined(0), 2);
        x.ruin(29);
        due(20, "just so", x.ruined(0), 0);
        x.ruin(60);
        due(20, "none", x.ruined(NONE), 0);
        due(20, "none", x.ruined(0), NONE);
        due(20, "of nobody", new WarrantWeather().ruined(NONE), 0);
    }

    private static void led() {
        WarrantWeather x = ruledBy("does decree=1; gain act*day*trade-act*60; fine 4; appeal hats>2;");
        x.folk(0, 5, 0);
        x.folk(0, 2, 0);
        x.folk(0, 0, 0);
        x.folk(1, 3, 0);
        x.folk(1, 2, 0);
        // Of 0: 5 * 29 - 60, and three hats take away the fine of 4.
        due(21, "the day", x.led(0, 0), 29);
        due(21, "how much", x.led(0, 1), 89);
        due(21, "by hats alone 58 + 4 - 60", x.led(1, 1), 2);
        due(21, "none", x.led(2, 0), NONE);
        due(21, "none", x.led(2, 1), NONE);
        due(21, "with two hats", x.led(3, 1), 27);
        due(21, "with two hats", x.led(4, 0), NONE);
        x.decree(29, 0, true);
        due(21, "that day is so", x.led(0, 0), 28);
        due(21, "the way back is no gain", x.led(1, 0), NONE);
        due(21, "back from a loss", x.led(2, 0), 29);
        due(21, "back from a loss", x.led(2, 1), 56);
        due(21, "others", x.led(5, 0), NONE);
        due(21, "others", x.led(-1, 0), NONE);
        due(21, "others", x.led(0, 2), NONE);
        due(21, "others", x.led(0, -1), NONE);
        WarrantWeather y = ruledBy("gain decree*(day/10);");
        y.folk(0, 0, 0);
        due(21, "of like ones the first", y.led(0, 0), 20);
        WarrantWeather z = ruledBy("gain wet*decree*5;");
        z.folk(3, 0, 0);
        z.sky(11, 5);
        due(21, "by the true sky", z.led(0, 0), 11);
        z.by(NONE);
        due(21, "without a text", z.led(0, 0), NONE);
        WarrantWeather w = ruledBy("gain wet-decree;");
        w.folk(1, 0, 0);
        w.sky(4, 9);
        due(21, "truly, not by paper", w.led(0, 0), NONE);
        w.decree(0, 1, true);
        due(21, "1 at least", w.led(0, 0) * 100 + w.led(0, 1), 1);
    }

    private static void odds() {
        WarrantWeather x = ruledBy("does sky+fear>6 and decree=0;");
        x.folk(0, 0, 0);
        x.folk(0, 0, 3);
        x.sky(2, 5);
        // By 5 the second does and the first does not: so it is by 4, 5 and 6.
        due(22, "upper", x.odds(2, 0, 0), 2);
        due(22, "lower", x.odds(2, 0, 1), 3);
        x.chance(4, 6);
        x.chance(5, 3);
        x.chance(6, 3);
        due(22, "lowest terms", x.odds(2, 0, 0) * 10 + x.odds(2, 0, 1), 12);
        x.chance(4, 0);
        due(22, "for sure", x.odds(2, 0, 0) * 10 + x.odds(2, 0, 1), 11);
        x.chance(5, 0);
        x.chance(6, 0);
        due(22, "none", x.odds(2, 0, 0), NONE);
        due(22, "none", x.odds(2, 0, 1), NONE);
        x.chance(4, 9);
        due(22, "never", x.odds(2, 0, 0) * 10 + x.odds(2, 0, 1), 1);
        x.decree(2, 0, true);
        due(22, "nobody does by any: 3 by 15", x.odds(2, 0, 0) * 100 + x.odds(2, 0, 1), 316);
        due(22, "where nobody is", x.odds(2, 3, 0) * 100 + x.odds(2, 3, 1), 316);
        WarrantWeather y = ruledBy("does sky>4;");
        due(22, "where nobody is yet", y.odds(0, 0, 0) * 10 + y.odds(0, 0, 1), 12);
        int[][] others = {{-1, 0, 0}, {30, 0, 0}, {0, -1, 0}, {0, 4, 0}, {0, 0, -1}, {0, 0, 2}};
        for (int[] o : others) {
            due(22, "others", x.odds(o[0], o[1], o[2]), NONE);
        }
    }

    private static void plan() {
        // Wet is worth 3 on days 1 and 3, sunny 2 on the others; all skies are 0.
        WarrantWeather x = ruledBy("gain decree*3*(day-day/2*2)+(1-decree)*2*(1-day+day/2*2);");
        x.folk(0, 0, 0);
        due(23, "one day", x.plan(0, 0, 1, NONE), 2);
        due(23, "one day wet", x.plan(0, 1, 1, 0) * 10 + x.plan(0, 1, 1, NONE), 13);
        // last 0 and seen 0 on days 0 and 1: both alike. Sunny 2 + 0, wet 0 + 3.
        due(23, "two days", x.plan(0, 0, 2, NONE), 3);
        due(23, "two days", x.plan(0, 0, 2, 0) * 10 + x.plan(0, 0, 2, 1), 11);
        x.sky(0, 1);
        due(23, "told apart by seen", x.plan(0, 0, 2, NONE), 5);
        due(23, "told apart by seen", x.plan(0, 0, 2, 0) * 10 + x.plan(0, 0, 2, 1), 1);
        due(23, "elsewhere nothing is gained", x.plan(1, 0, 10, NONE), 0);
        due(23, "of like ones sunny", x.plan(1, 0, 10, 9), 0);
        x.sky(0, 0);
        // Days 4 and 5, last is wet on day 3: wet on 4 would bind 5.
        x.decree(3, 0, true);
        due(23, "last as it is", x.plan(0, 4, 2, NONE), 5);
        due(23, "last as it is", x.plan(0, 4, 2, 0) * 10 + x.plan(0, 4, 2, 1), 1);
        due(23, "nothing came to be", x.about(7), 1);
        due(23, "to the end", x.plan(0, 20, 10, 9) >= 0, true);
        int[][] others = {{-1, 0, 1, 0}, {4, 0, 1, 0}, {0, -1, 1, 0}, {0, 30, 1, 0}, {0, 0, 0, NONE}, {0, 0, 11, 0},
            {0, 21, 10, 0}, {0, 0, 3, 3}, {0, 0, 3, -2}, {0, MOST, MOST, 0}, {0, 29, 2, 0}};
        for (int[] o : others) {
            due(23, "others", x.plan(o[0], o[1], o[2], o[3]), -100000000);
        }
        WarrantWeather y = ruledBy("gain -5-decree;");
        y.folk(2, 0, 0);
        due(23, "the least loss", y.plan(2, 0, 10, NONE), -50);
        WarrantWeather z = ruledBy("gain decree;");
        z.folk(2, 0, 0);
        z.folk(2, 0, 0);
        z.folk(1, 0, 0);
        due(23, "its folk alone", z.plan(2, 20, 10, NONE), 20);
        due(23, "all wet", z.plan(2, 20, 10, 9), 1);
        due(23, "fewer days behind more", z.plan(2, 20, 3, NONE), 6);
        due(23, "another province behind it", z.plan(1, 20, 3, NONE), 3);
    }

    /** Which DAYS are alike for the clerk: by the SKY of the very DAY ahead, and by last and seen both. */
    private static void planByLastAndSeen() {
        WarrantWeather x = ruledBy("gain (2*decree-1)*(day/5*2-1);", 1, 0, 0, 0);
        // Wet is worth 1 on day 5, sunny on days 3 and 4; all seen are 0, and 001 is not to be had.
        due(23, "all alike", x.plan(0, 3, 3, NONE), 1);
        x.sky(4, 1);
        due(23, "day 5 has another seen", x.plan(0, 3, 3, NONE), 3);
        due(23, "wet on it", x.plan(0, 3, 3, 0) * 100 + x.plan(0, 3, 3, 1) * 10 + x.plan(0, 3, 3, 2), 1);
        x.sky(4, 0);
        x.sky(5, 1);
        x.sky(1, 1);
        due(23, "not those of other days", x.plan(0, 3, 3, NONE), 1);
        WarrantWeather y = ruledBy("gain (2*decree-1)*(1-2*(day-day/2*2));", 1, 0, 0, 0);
        // Wet is worth 1 on even days: day 1 has last 1 and seen 0, day 2 last 0 and seen 1.
        y.sky(1, 1);
        due(23, "unlike by both", y.plan(0, 0, 3, NONE), 3);
        due(23, "wet, sunny, wet", y.plan(0, 0, 3, 0) * 100 + y.plan(0, 0, 3, 1) * 10 + y.plan(0, 0, 3, 2), 101);
        due(23, "wet and sunny in turn", y.plan(0, 4, 10, NONE), 10);
        due(23, "on the last day sunny", y.plan(0, 4, 10, 9), 0);
    }

    private static void found() {
        WarrantWeather x = new WarrantWeather();
        due(24, "none", x.found(0, 0), NONE);
        due(24, "none", x.found(0, 1), NONE);
        x.sky(9, 3);
        x.decree(10, 1, true);
        due(24, "seen for the first time", x.found(1, 0), NONE);
        x.sky(19, 3);
        due(24, "the day", x.found(1, 0), 20);
        due(24, "the first earlier one", x.found(1, 1), 10);
        due(24, "not elsewhere", x.found(0, 0), NONE);
        x.decree(20, 1, true);
        due(24, "days 11 and 21 are alike", x.found(1, 0), NONE);
        x.decree(21, 1, true);
        due(24, "by last", x.found(1, 0), 21);
        due(24, "by last", x.found(1, 1), 11);
        x.sky(28, 7);
        x.sky(27, 7);
        x.decree(29, 3, true);
        due(24, "the last day", x.found(3, 0) * 100 + x.found(3, 1), 2928);
        x.decree(1, 2, true);
        due(24, "day 0 has 0 and 0", x.found(2, 0) * 10 + x.found(2, 1), 10);
        due(24, "others", x.found(-1, 0), NONE);
        due(24, "others", x.found(4, 0), NONE);
        due(24, "others", x.found(2, 2), NONE);
        due(24, "others", x.found(2, -1), NONE);
    }

    private static void even() {
        due(25, "without a text", new WarrantWeather().even(0, NONE), 16);
        WarrantWeather x = ruledBy("toll -others;");
        due(25, "all alike", x.even(0, NONE), 2);
        due(25, "all alike", x.even(29, 0) * 100 + x.even(29, 1), 15);
        due(25, "no more", x.even(29, 2), NONE);
        WarrantWeather u = ruledBy("toll others;");
        due(25, "two by two", u.even(0, NONE), 6);
        int[] even = {3, 5, 6, 9, 10, 12};
        for (int i = 0; i < even.length; i++) {
            due(25, "the " + i + "-th", u.even(0, i), even[i]);
        }
        due(25, "others", x.even(0, -2), NONE);
        due(25, "others", x.even(-1, NONE), NONE);
        due(25, "others", x.even(30, 0), NONE);
        WarrantWeather y = ruledBy("gain decree*(trade-5)*day; toll mine*(3-province*2);");
        due(25, "by mine and province", y.even(0, NONE) * 100 + y.even(0, 0), 103);
        y.folk(3, 9, 0);
        y.folk(0, 4, 0);
        y.folk(0, 3, 0);
        due(25, "by gains, too", y.even(1, NONE) * 100 + y.even(1, 0), 210);
        due(25, "day 1: province 0 has 3 - 3 by either", y.even(1, 1), 11);
        due(25, "day 2", y.even(2, NONE) * 100 + y.even(2, 0), 110);
        WarrantWeather z = ruledBy("gain decree*998; toll mine*-5000;");
        z.folk(0, 0, 0);
        due(25, "999 at most", z.even(0, 0), 0);
        z.folk(0, 0, 0);
        due(25, "and no more", z.even(0, 0), 1);
        WarrantWeather w = ruledBy("gain decree*999+wet; toll (1-mine)*5000;");
        w.folk(1, 0, 0);
        due(25, "either is the same", w.even(0, NONE), 2);
        WarrantWeather v = ruledBy("gain decree*999; toll mine*-5000;");
        v.folk(1, 0, 0);
        due(25, "either is the same", v.even(0, NONE), 2);
        WarrantWeather t = ruledBy("gain (1-decree)*5;");
        t.folk(0, 0, 0);
        due(25, "sunny in province 0", t.even(0, NONE) * 100 + t.even(0, 1), 802);
        WarrantWeather s = ruledBy("toll mine*(others-3);");
        int[] alone = {0, 1, 2, 4, 8};
        due(25, "one at most", s.even(0, NONE), 5);
        for (int i = 0; i < alone.length; i++) {
            due(25, "one at most", s.even(0, i), alone[i]);
        }
    }

    private static void flood() {
        WarrantWeather x = ruledBy("warrant day<3 or day=29;");
        due(26, "none", x.flood(NONE), 0);
        due(26, "none", x.flood(0), NONE);
        x.warrant(0, 29);
        due(26, "how many", x.flood(NONE), 4);
        due(26, "the last", x.flood(3), 29);
        x.sky(1, 5);
        x.sky(2, 4);
        due(26, "truly wet ones aside", x.flood(NONE), 3);
        due(26, "the second", x.flood(1), 2);
        x.decree(2, 3, false);
        due(26, "in all provinces", x.flood(1), 29);
        due(26, "no more", x.flood(2), NONE);
        due(26, "others", x.flood(-2), NONE);
    }

    private static void reform() {
        due(27, "without a text", new WarrantWeather().reform(0), NONE);
        WarrantWeather x = ruledBy("toll 5; fine 3; does 1=1; warrant 1=1; gain -act*2;");
        due(27, "without folk", x.reform(0), NONE);
        x.folk(0, 0, 0);
        x.folk(1, 0, 0);
        due(27, "the clause", x.reform(0), 1);
        due(27, "how much", x.reform(1), 180);
        due(27, "others", x.reform(2), NONE);
        due(27, "others", x.reform(-1), NONE);
        WarrantWeather y = ruledBy("does 1=1; gain -act*2;");
        y.folk(0, 0, 0);
        due(27, "of like ones the first", y.reform(0) * 100 + y.reform(1), 60);
        WarrantWeather z = ruledBy("gain 5-decree; fine 3; appeal hats=0 and day<29; does sky>4;");
        z.folk(0, 0, 0);
        due(27, "fine of one day", z.reform(0) * 100 + z.reform(1), 103);
        z.sky(0, 9);
        z.sky(1, 9);
        z.sky(2, 9);
        due(27, "fine of four days", z.reform(1), 12);
        due(27, "decrees as they are", z.sum(NONE, 0, 29, false), 138);
        WarrantWeather w = ruledBy("does 1=1; fine 3*act; appeal hats=2;");
        w.folk(0, 0, 0);
        due(27, "the first of like ones", w.reform(0) * 100 + w.reform(1), 90);
        WarrantWeather v = ruledBy("gain 5;");
        v.folk(0, 0, 0);
        due(27, "none helps", v.reform(0), NONE);
        due(27, "none helps", v.reform(1), NONE);
        due(27, "all as it was", v.gain(0, 0, false), 5);
        WarrantWeather u = ruledBy("gain 0-wet;");
        u.folk(0, 0, 0);
        u.decree(0, 0, true);
        u.decree(1, 0, true);
        due(27, "truly, not by paper", u.reform(0), NONE);
        u.sky(7, 6);
        due(27, "1 at least", u.reform(0) * 10 + u.reform(1), 1);
        WarrantWeather t = ruledBy("gain wet*5; fine 1;");
        t.folk(0, 0, 0);
        t.decree(0, 0, true);
        due(27, "truly without fine", t.reform(0) * 100 + t.reform(1), 130);
    }

    private static void sing() {
        WarrantWeather x = new WarrantWeather();
        tape(x, "  aeiou   xyz baobab u");
        due(28, "days", x.sing(26, 8), 4);
        due(28, "5 and 8", x.of(26, 0, 0), 3);
        due(28, "0 and 8", x.of(27, 0, 0), 8);
        due(28, "3 and 8", x.of(28, 0, 0), 1);
        due(28, "1 and 8", x.of(29, 0, 0), 9);
        due(28, "the tape is empty then", x.about(5), 0);
        due(28, "no word", x.sing(0, 0), NONE);
        tape(x, "   ");
        due(28, "blanks alone", x.sing(0, 0), NONE);
        due(28, "the tape stays", x.about(5), 3);
        tape(x, "ab cd ef ");
        due(28, "days above 29", x.sing(28, 0), NONE);
        due(28, "day above", x.sing(30, 0), NONE);
        due(28, "day below", x.sing(-1, 0), NONE);
        due(28, "key above", x.sing(0, 10), NONE);
        due(28, "key below", x.sing(0, -1), NONE);
        due(28, "the tape stays", x.about(5), 9);
        due(28, "skies stay", x.of(28, 0, 0), 1);
        due(28, "just so", x.sing(27, 0), 3);
        x.sky(2, 8);
        tape(x, "ab cd");
        x.sing(0, 3);
        due(28, "no day behind them", x.of(2, 0, 0), 8);
        String[] none = {"ab Cd", "ab\ncd", "ab1", "ab-cd", "ab `", "ab {", "ab" + (char) 0, "ab" + (char) 225};
        for (String signs : none) {
            tape(x, signs);
            due(28, "no song: " + signs, x.sing(0, 0), NONE);
            due(28, "the tape stays", x.about(5), signs.length());
        }
        tape(x, "a ".repeat(31));
        due(28, "31 words", x.sing(0, 0), NONE);
        tape(x, "a ".repeat(30));
        due(28, "30 words", x.sing(0, 4), 30);
        due(28, "all wet", x.about(6), 30);
        tape(x, "a".repeat(279));
        due(28, "many vowels", x.sing(0, 9), 1);
        due(28, "by 10 what is left", x.of(0, 0, 0), 8);
    }

    private static void heard() {
        WarrantWeather x = new WarrantWeather();
        tape(x, "aa b oue");
        due(29, "one", x.heard(0, 0), 1);
        due(29, "none", x.heard(0, 1), 0);
        x.sky(5, 9);
        x.sky(7, 0);
        due(29, "two of three", x.heard(5, 7), 2);
        due(29, "the tape stays", x.about(5), 8);
        due(29, "skies stay", x.of(6, 0, 0), 0);
        x.sing(5, 7);
        tape(x, "aa b oue");
        due(29, "as it was sung", x.heard(5, 7), 3);
        due(29, "days above 29", x.heard(28, 0), NONE);
        due(29, "others", x.heard(-1, 0), NONE);
        due(29, "others", x.heard(30, 0), NONE);
        due(29, "others", x.heard(0, 10), NONE);
        due(29, "others", x.heard(0, -1), NONE);
        tape(x, "aa B");
        due(29, "no song", x.heard(0, 0), NONE);
        x.end(0);
        due(29, "no word", x.heard(0, 0), NONE);
    }

    private static void image() {
        WarrantWeather x = ruledBy("gain 1;");
        x.folk(1, 2, 3);
        x.sky(0, 5);
        x.decree(0, 0, true);
        x.chance(3, 4);
        x.ruin(77);
        due(30, "folk", x.image(), 1);
        x.folk(0, 0, 0);
        x.folk(0, 0, 0);
        x.undo();
        x.decree(9, 2, true);
        x.decree(9, 3, true);
        x.sky(1, 5);
        x.chance(3, 5);
        x.ruin(78);
        x.by(text(x, "gain 2;"));
        text(x, "gain 10000;");
        tape(x, "abc");
        due(31, "folk", x.back(), 1);
        due(31, "its entry", x.about(20), 123);
        due(31, "no other entry", x.about(21), -2);
        due(31, "skies", x.about(6), 1);
        due(31, "decrees", x.about(7) * 10 + x.of(0, 0, 1), 11);
        due(31, "chance", x.about(13), 4);
        due(31, "ruin", x.about(1), 77);
        due(31, "texts", x.about(2), 1);
        due(31, "the text", x.about(3), 0);
        due(31, "rules again", x.gain(0, 0, false), 1);
        due(31, "but the tape", x.about(5), 3);
        due(31, "but the fault", x.fault(0), 2);
        due(31, "steps", x.about(4), 1);
        due(31, "the step", x.undo(), 0);
        due(31, "no text 1", x.by(1), false);
        due(31, "told anew", text(x, "gain 3;"), 1);
        x.by(1);
        due(31, "and rules", x.gain(0, 0, false), 3);
        due(31, "the image stays", x.back(), 1);
        due(31, "the step is there again", x.undo(), 0);
        x.folk(3, 3, 3);
        due(30, "a later one", x.image(), 2);
        x.folk(3, 3, 3);
        x.decree(5, 1, true);
        due(31, "to the later one", x.back(), 2);
        due(31, "no step", x.about(4), 0);
    }

    /** STEPS beyond 60 stay right in an image, too. */
    private static void imageOfSteps() {
        WarrantWeather x = ruledBy("warrant 1=1;");
        x.warrant(0, 29);
        x.undo();
        x.image();
        for (int i = 0; i < 40; i++) {
            x.undo();
        }
        x.decree(0, 0, false);
        x.back();
        due(31, "steps", x.about(4), 59);
        for (int i = 118; i > 59; i--) {
            due(31, "in turn", x.undo(), 10 * (i / 4) + i % 4);
        }
        due(31, "none left", x.undo(), NONE);
        due(31, "wet ones", x.about(7), 60);
    }

    private static void about() {
        WarrantWeather x = ruledBy("gain 1;");
        x.folk(3, 9, 8);
        x.ruin(12);
        x.sky(4, 5);
        x.sky(5, 4);
        x.decree(1, 1, true);
        x.decree(2, 1, true);
        x.decree(2, 1, false);
        x.chance(0, 5);
        x.chance(9, 6);
        tape(x, "abcd");
        int[] due = {1, 12, 1, 0, 3, 4, 1, 1, -2, -2, 5, 1, 1, 1, 1, 1, 1, 1, 1, 6, 398, -2};
        for (int what = 0; what < due.length; what++) {
            due(32, "about " + what, x.about(what), due[what]);
        }
        int[] others = {-1, -2, 32, 31, 100, LEAST, MOST};
        for (int what : others) {
            due(32, "about " + what, x.about(what), -2);
        }
        for (int i = 0; i < 11; i++) {
            x.folk(0, 0, i % 10);
        }
        due(32, "the twelfth", x.about(31), 0);
        due(32, "behind it", x.about(32), -2);
    }

    public static void main(String[] args) {
        newObject();
        folk();
        sky();
        skies();
        decree();
        chance();
        ruin();
        feed();
        end();
        text();
        textInAPlaceUsedBefore();
        faultsByGrammar();
        faultsOfOpenOnes();
        faultsOfNames();
        fault();
        by();
        sums();
        eithers();
        warrant();
        letGo();
        undo();
        of();
        on();
        gain();
        sum();
        ruined();
        led();
        odds();
        plan();
        planByLastAndSeen();
        found();
        even();
        flood();
        reform();
        sing();
        heard();
        image();
        imageOfSteps();
        about();
        tellAll();
    }
}

import java.io.IOException;

/** Every sentence of the Terms that names a boundary: on it, and one step to each side. */
public final class TermEdgeTests extends Checks {
    private static Document document;
    private static String said = "";

    /** The sentence that the next answers are about. */
    private static void sentence(String words) {
        said = "(" + words + ") ";
        if (document.isThere()) {
            due(said + "stands in the document", document.quote("Terms", words), true);
        }
    }

    private static void is(String what, long got, long want) {
        due(said + what, got, want);
    }

    private static void is(String what, boolean got, boolean want) {
        due(said + what, got, want);
    }

    /** A text with that fault at that place; 0 and NONE: with none. */
    private static void fault(String signs, int kind, int place) {
        WarrantWeather x = new WarrantWeather();
        is("text '" + signs + "'", text(x, signs), kind == 0 ? 0 : NONE);
        is("fault of '" + signs + "'", x.fault(0), kind);
        is("place in '" + signs + "'", x.fault(1), place);
    }

    private static void sound(String signs) {
        fault(signs, 0, NONE);
    }

    /** Whether one of the folk, of trade 3 and fear 4 in province 2, does on day 7 by a sky of 6. */
    private static void holds(String either) {
        WarrantWeather x = ruledBy("does " + either + ";", 1, 2, 3, 4);
        x.sky(7, 6);
        is(either, x.on(0, 7, 0), 1);
    }

    // ==== I.

    private static void skies() {
        sentence("DAYS 0 .. 29, each with a SKY (0 .. 9; at first 0); truly wet: 5 or more.");
        WarrantWeather x = new WarrantWeather();
        for (int day = 0; day < 30; day++) {
            is("at first, day " + day, x.of(day, 0, 0), 0);
        }
        is("no day ahead of 0", x.sky(-1, 0), false);
        is("no day behind 29", x.sky(30, 0), false);
        int[] wet = {0, 0, 0, 0, 0, 1, 1, 1, 1, 1};
        for (int s = 0; s <= 9; s++) {
            WarrantWeather y = ruledBy("gain wet;", 1, 0, 0, 0);
            y.sky(29, s);
            is("sky " + s, y.of(29, 3, 0), s);
            is("truly wet days by " + s, y.about(6), wet[s]);
            is("truly wet in gain by " + s, y.gain(0, 29, false), wet[s]);
            is("by paper it isn't by " + s, y.gain(0, 29, true), 0);
        }
        is("no sky below 0", x.sky(0, -1), false);
        is("no sky above 9", x.sky(0, 10), false);
        for (int day = 0; day < 30; day++) {
            x.sky(day, 5);
        }
        is("30 days", x.about(6), 30);
    }

    private static void decrees() {
        sentence("PROVINCES 0 .. 3, each with a DECREE for each DAY: 0 sunny, 1 wet (at first 0).");
        WarrantWeather x = new WarrantWeather();
        for (int cell = 0; cell < 120; cell++) {
            is("at first, " + cell, x.of(cell / 4, cell % 4, 1), 0);
        }
        for (int[] at : new int[][] {{0, 0}, {0, 3}, {1, 0}, {28, 3}, {29, 0}, {29, 3}}) {
            WarrantWeather y = new WarrantWeather();
            y.decree(at[0], at[1], true);
            for (int cell = 0; cell < 120; cell++) {
                is("that one alone", y.of(cell / 4, cell % 4, 1), cell == at[0] * 4 + at[1] ? 1 : 0);
            }
        }
        is("120 of them", ruledBy("warrant 1=1;").warrant(0, 29), 120);
        is("no province below 0", x.decree(0, -1, true), false);
        is("no province above 3", x.decree(0, 4, true), false);
    }

    private static void folk() {
        sentence("FOLK 0 .. 11 (told one by one): a PROVINCE, a TRADE (0 .. 9), FEAR (0 .. 9).");
        WarrantWeather x = ruledBy("gain 1000*province+10*trade+fear;");
        int[][] corners = {{0, 0, 0}, {3, 0, 0}, {0, 9, 0}, {0, 0, 9}, {3, 9, 9}, {1, 8, 1}};
        for (int i = 0; i < 12; i++) {
            int[] one = corners[i % corners.length];
            is("one by one", x.folk(one[0], one[1], one[2]), i);
            is("as told", x.about(20 + i), 100 * one[0] + 10 * one[1] + one[2]);
            is("in laws", x.gain(i, 0, false), 1000 * one[0] + 10 * one[1] + one[2]);
        }
        is("no more than 11", x.folk(0, 0, 0), NONE);
        is("the first ones are as they were", x.about(24), 399);
    }

    private static void chances() {
        sentence("CHANCES of SKIES 0 .. 9 (0 .. 9 each; at first 1).");
        WarrantWeather x = new WarrantWeather();
        for (int s = 0; s <= 9; s++) {
            is("at first", x.about(10 + s), 1);
            is("least", x.chance(s, 0), true);
            is("is 0", x.about(10 + s), 0);
            is("most", x.chance(s, 9), true);
            is("is 9", x.about(10 + s), 9);
            is("no less", x.chance(s, -1), false);
            is("no more", x.chance(s, 10), false);
        }
        is("all at most: 45 by 90", x.odds(0, 0, 0) * 10 + x.odds(0, 0, 1), 12);
    }

    private static void ruin() {
        sentence("RUIN (0 .. 9999; at first 0).");
        WarrantWeather x = ruledBy("gain -1;", 1, 0, 0, 0);
        is("at first", x.about(1), 0);
        is("by it one is ruined", x.ruined(NONE), 1);
        WarrantWeather y = ruledBy("gain -5000*(day/28);", 1, 0, 0, 0);
        // 10000 are lost in all.
        is("most", y.ruin(9999), true);
        is("one more than RUIN is lost", y.ruined(NONE), 1);
        is("above", y.ruin(10000), false);
        is("as it was", y.ruined(NONE), 1);
    }

    /** So many decrees in turn come to be wet, from that of day 0 and province 0 on. */
    private static WarrantWeather stepped(int steps) {
        WarrantWeather x = new WarrantWeather();
        for (int cell = 0; cell < steps; cell++) {
            x.decree(cell / 4, cell % 4, true);
        }
        return x;
    }

    private static void steps() {
        sentence("STEPS: each DECREE that comes to be another one (told, or by THE WARRANT), the latest 60 of them; "
                + "the latest not taken back can be TAKEN BACK: it is as it was.");
        for (int steps : new int[] {0, 1, 59, 60, 61, 62, 119, 120}) {
            WarrantWeather x = stepped(steps);
            int kept = Math.min(60, steps);
            is("kept of " + steps, x.about(4), kept);
            for (int i = 1; i <= kept; i++) {
                int cell = steps - i;
                is("taken back of " + steps, x.undo(), 10 * (cell / 4) + cell % 4);
            }
            is("no more of " + steps, x.undo(), NONE);
            is("wet ones are left of " + steps, x.about(7), steps - kept);
        }
        WarrantWeather x = stepped(2);
        x.decree(0, 1, true);
        is("told as it is", x.about(4), 2);
        x.decree(0, 1, false);
        is("told another", x.about(4), 3);
        is("taken back", x.undo(), 1);
        is("it is as it was", x.of(0, 1, 1), 1);
        is("the latest not taken back", x.undo(), 1);
        is("it is as it was", x.of(0, 1, 1), 0);
        x.decree(7, 2, true);
        is("behind one taken back", x.about(4), 2);
        is("the new one", x.undo(), 72);
        is("then the one ahead of it", x.undo(), 0);
        is("none left", x.undo(), NONE);
    }

    private static void stepsOfWarrants() {
        WarrantWeather x = ruledBy("warrant province=3;");
        x.decree(0, 0, true);
        x.decree(0, 3, true);
        is("another each: 0, not 3", x.warrant(0, 0), 1);
        is("steps", x.about(4), 3);
        is("the warrant's", x.undo(), 0);
        is("as it was", x.of(0, 0, 1), 1);
        is("those told", x.undo() * 100 + x.undo(), 300);
        WarrantWeather y = ruledBy("warrant day<15;");
        is("just 60", y.warrant(0, 29), 60);
        is("60 steps", y.about(4), 60);
        y.decree(29, 3, true);
        is("still 60", y.about(4), 60);
        is("the 61st", y.undo(), 293);
        for (int cell = 59; cell >= 1; cell--) {
            is("in turn", y.undo(), 10 * (cell / 4) + cell % 4);
        }
        is("the first was pushed out", y.undo(), NONE);
        is("it stays", y.of(0, 0, 1) * 10 + y.about(7), 11);
    }

    // ==== II.

    private static void texts() {
        sentence("TEXTS 0 .. 3: of up to 300 bytes.");
        WarrantWeather x = new WarrantWeather();
        for (int number = 0; number <= 3; number++) {
            is("number", text(x, "gain " + number + ";"), number);
            is("that rules", x.by(number), true);
            is("no more yet", x.by(number + 1), false);
        }
        is("none above 3", text(x, "gain 4;"), NONE);
        for (int bytes : new int[] {299, 300}) {
            WarrantWeather y = ruledBy("gain 1" + " ".repeat(bytes - 9) + "+1;", 1, 0, 0, 0);
            is("the last of " + bytes + " counts", y.gain(0, 0, false), 2);
            fault("gain 1" + " ".repeat(bytes - 6), 1, bytes);
        }
        WarrantWeather most = ruledBy("gain1" + "+1".repeat(147) + ";", 1, 0, 0, 0);
        is("300 bytes, nearly each a token", most.gain(0, 0, false), 148);
    }

    private static final String TOKENS = "TOKENS, blanks (32, 10) aside: letters a .. z, A .. Z one behind the other "
            + "(one TOKEN), digits likewise (NUMBERS, 0 .. 9999), <= >= < > = # + - * / ( ) ; (the longest).";

    /** Each byte behind a NUMBER and behind a NAME: whether it parts, goes on, can't stand there or is none. */
    private static void bytes() {
        sentence(TOKENS);
        for (int b = 0; b < 256; b++) {
            boolean blank = b == 32 || b == 10;
            boolean digit = b >= 48 && b <= 57;
            boolean letter = b >= 65 && b <= 90 || b >= 97 && b <= 122;
            // Those that can stand there make the ; behind them the wrong one.
            int late = b == '+' || b == '-' || b == '*' || b == '/' || b == ';' ? 1 : 0;
            String number = "gain 1" + (char) b + ";";
            fault(number, blank || digit ? 0 : 1, blank || digit ? NONE : 6 + late);
            String name = "gain day" + (char) b + ";";
            fault(name, blank ? 0 : 1, blank ? NONE : letter ? 5 : 8 + late);
            String ahead = (char) b + "gain 1;";
            fault(ahead, blank ? 0 : 1, blank ? NONE : 0);
        }
    }

    private static void tokens() {
        sentence(TOKENS);
        sound("\n\n gain\n1 \n;  \n");
        sound("gain1;fine2;");
        sound("does day=1or day=2and day=3;");
        fault("ga in 1;", 1, 0);
        fault("gainday;", 1, 0);
        fault("gain 1 2;", 1, 7);
        fault("gain da y;", 1, 5);
        fault("GAIN 1;", 1, 0);
        fault("gain dAy;", 1, 5);
        for (String asked : new String[] {"<=", ">=", "<", ">", "=", "#"}) {
            sound("does 1" + asked + "1;");
            sound("does 1 " + asked + " 1;");
        }
        fault("does 1< =1;", 1, 8);
        fault("does 1> =1;", 1, 8);
        fault("does 1<==1;", 1, 8);
        fault("does 1>==1;", 1, 8);
        fault("does 1=<1;", 1, 7);
        fault("does 1=>1;", 1, 7);
        fault("does 1==1;", 1, 7);
        fault("does 1<<1;", 1, 7);
        fault("does 1<>1;", 1, 7);
        fault("does 1##1;", 1, 7);
        fault("does 1!=1;", 1, 6);
        fault("<", 1, 0);
        fault("gain 1<", 1, 6);
        fault("does 1<", 1, 7);
        fault("does 1<=", 1, 8);
    }

    private static void numbers() {
        sentence("digits likewise (NUMBERS, 0 .. 9999)");
        for (int n : new int[] {0, 1, 9, 10, 99, 100, 999, 1000, 9998, 9999}) {
            WarrantWeather x = ruledBy("gain " + n + ";", 1, 0, 0, 0);
            is("number " + n, x.gain(0, 0, false), n);
        }
        sentence("2 a NUMBER above 9999.");
        sound("gain 9999;");
        fault("gain 10000;", 2, 5);
        fault("gain 10001;", 2, 5);
        fault("gain 2147483648;", 2, 5);
        fault("gain 4294967296;", 2, 5);
        fault("gain 18446744073709551616;", 2, 5);
        fault("gain 1" + "0".repeat(293) + ";", 2, 5);
        fault("gain 9999+10000;", 2, 10);
        fault("does 1=10000;", 2, 7);
        fault("gain -10000;", 2, 6);
        fault("gain (10000;", 2, 6);
    }

    private static final String[] CLAUSES = {"warrant", "does", "gain", "fine", "appeal", "toll"};
    private static final String[] BODIES = {" 1=1;", " 1=1;", " 1;", " 1;", " 1=1;", " 1;"};

    private static void clauses() {
        sentence("{CLAUSE}, each at most once");
        sound("");
        StringBuilder all = new StringBuilder();
        for (int i = 0; i < CLAUSES.length; i++) {
            sound(CLAUSES[i] + BODIES[i]);
            all.append(CLAUSES[i]).append(BODIES[i]);
            sound(all.toString());
        }
        sentence("4 a CLAUSE that was there (at its first TOKEN).");
        StringBuilder turned = new StringBuilder();
        for (int i = CLAUSES.length - 1; i >= 0; i--) {
            String one = CLAUSES[i] + BODIES[i];
            turned.append(one);
            fault(one + "\n " + one, 4, one.length() + 2);
            fault(all + one, 4, all.length());
        }
        sound(turned.toString());
        fault("gain 1; gain", 4, 8);
        fault("gain 1; gain !", 4, 8);
        fault("gain 1; gain 10000;", 4, 8);
        fault("gain gain 1;", 1, 5);
        fault("gain 1 gain 1;", 1, 7);
    }

    private static void shapes() {
        sentence("EITHER: BOTH {or BOTH}. BOTH: ASK {and ASK}. ASK: not ASK, or SUM one of < <= > >= = # (unlike) SUM. "
                + "SUM: PRODUCT {+ or - PRODUCT}. PRODUCT: ONE {* or / ONE}. ONE: NUMBER, NAME, ( SUM ), - ONE.");
        sound("does 1=1;");
        sound("does 1=1 or 1=1;");
        sound("does 1=1" + " or 1=1".repeat(41) + ";");
        sound("does 1=1" + " and 1=1".repeat(36) + ";");
        sound("gain 1" + "+1".repeat(146) + ";");
        sound("gain 1" + "*1-1/1".repeat(48) + ";");
        sound("gain" + "(1)*".repeat(72) + "-(1);");
        fault("does ;", 1, 5);
        fault("does 1;", 1, 6);
        fault("does day;", 1, 8);
        fault("does 1=;", 1, 7);
        fault("does =1;", 1, 5);
        fault("does 1=1=1;", 1, 8);
        fault("does 1=1 or;", 1, 11);
        fault("does 1=1 or or 1=1;", 1, 12);
        fault("does 1=1 and or 1=1;", 1, 13);
        fault("does not;", 1, 8);
        fault("does 1=not 1;", 1, 7);
        fault("does (1=1);", 1, 7);
        fault("does (not 1=1);", 1, 6);
        fault("gain 1=1;", 1, 6);
        fault("gain 1 or 1;", 1, 7);
        fault("gain ();", 1, 6);
        fault("gain (1;", 1, 7);
        fault("gain 1);", 1, 6);
        fault("gain +1;", 1, 5);
        fault("gain 1-;", 1, 7);
        fault("gain 1*;", 1, 7);
        fault("gain 1*/1;", 1, 7);
        fault("gain -;", 1, 6);
        sound("gain 1--1;");
        sound("gain 1*-1/-1;");
    }

    /** The one named in a warrant: what it is on that day in province 1, by wet decrees and skies all around. */
    private static long inWarrant(String name, int day, int worth) {
        WarrantWeather x = ruledBy("warrant " + name + "=" + worth + ";");
        x.decree(0, 1, true);
        x.decree(29, 1, true);
        x.decree(28, 1, true);
        x.sky(0, 3);
        x.sky(28, 6);
        x.sky(29, 8);
        x.warrant(day, day);
        return x.of(day, 1, 1);
    }

    private static void daysAhead() {
        sentence("last (the DECREE there of the DAY ahead; of DAY 0: 0), "
                + "seen (the SKY of the DAY ahead; of DAY 0: 0) in warrant");
        is("last of day 0", inWarrant("last", 0, 0), 1);
        is("last of day 0 isn't 1", inWarrant("last", 0, 1), 0);
        is("last of day 1", inWarrant("last", 1, 1), 1);
        is("last of day 2", inWarrant("last", 2, 0), 1);
        is("last of day 29", inWarrant("last", 29, 1), 1);
        is("seen of day 0", inWarrant("seen", 0, 0), 1);
        is("seen of day 0 isn't its own", inWarrant("seen", 0, 3), 0);
        is("seen of day 0 isn't that of day 29", inWarrant("seen", 0, 8), 0);
        is("seen of day 1", inWarrant("seen", 1, 3), 1);
        is("seen of day 2", inWarrant("seen", 2, 0), 1);
        is("seen of day 29", inWarrant("seen", 29, 6), 1);
        is("sky of day 0", inWarrant("sky", 0, 3), 1);
        is("sky of day 29", inWarrant("sky", 29, 8), 1);
        is("day 0", inWarrant("day", 0, 0), 1);
        is("day 29", inWarrant("day", 29, 29), 1);
        WarrantWeather x = ruledBy("warrant last=1;");
        x.decree(4, 1, true);
        x.warrant(5, 5);
        is("there: not of another province", x.of(5, 0, 1) * 100 + x.of(5, 1, 1) * 10 + x.of(5, 2, 1), 10);
        WarrantWeather y = ruledBy("warrant last=0;");
        is("by the decree as it came to be", y.warrant(0, 29), 60);
        is("day by day", y.of(0, 3, 1) * 100 + y.of(1, 3, 1) * 10 + y.of(28, 3, 1), 101);
    }

    private static void hats() {
        sentence("act (whether it DOES, 1, 0) in gain, fine; wet (1, 0) in gain; "
                + "hats (how many FOLK of that PROVINCE DO on that DAY) in appeal; mine, others in toll.");
        for (int folk : new int[] {1, 2, 11, 12}) {
            for (int count = folk - 1; count <= Math.min(12, folk + 1); count++) {
                WarrantWeather x = ruledBy("does 1=1; appeal hats=" + count + ";", folk, 3, 0, 0);
                is("hats of " + folk + " as " + count, x.on(0, 0, 2), folk == count ? 1 : 0);
            }
        }
        WarrantWeather x = ruledBy("does fear>0; appeal hats=0; gain act*10+wet; fine act;", 1, 1, 0, 0);
        x.folk(2, 0, 1);
        is("none of that province", x.on(0, 5, 2), 1);
        is("one of the other", x.on(1, 5, 2), 0);
        is("act 0", x.gain(0, 5, false), 0);
        is("act 1, less fine", x.gain(1, 5, false), 9);
        x.sky(5, 5);
        is("wet 1", x.gain(0, 5, false), 1);
    }

    private static void worth() {
        sentence("From the left; / cuts towards 0, by 0 it is 0; what is above 1000000 (below the same less) is that, "
                + "at each step. or and and look at both sides always.");
        holds("10-3-2=5");
        holds("100/5/2=10");
        holds("7/2*2=6");
        holds("2*7/2=7");
        holds("6/2=3 and 7/2=3 and 8/2=4");
        holds("0-6/2=0-3 and 0-7/2=0-3");
        holds("(0-7)/2=-3 and 7/-2=-3 and (0-7)/-2=3");
        holds("1/2=0 and -1/2=0 and 2/2=1 and -2/2=-1");
        holds("0/5=0 and 5/0=0 and -5/0=0 and 0/0=0 and 5/(3-3)=0");
        holds("5/0+1=1 and 5/1=5 and 5/-1=-5");
        // 999 * 1001 is 999999.
        holds("999*1001+1=1000*1000");
        holds("999*1001<1000*1000");
        holds("1000*1000+1=1000*1000");
        holds("1000*1000+1-1=999*1001");
        holds("1000*1000-1=999*1001");
        holds("1000*1001=1000*1000");
        holds("9999*9999=1000*1000");
        holds("9999*9999*9999=1000*1000");
        holds("1000*1000*1000*1000*1000/1000=1000");
        holds("1000*1000--1=1000*1000");
        holds("-1000*1000=0-1000*1000");
        holds("-1000*1000-1=-1000*1000");
        holds("-1000*1000-1+1=-999*1001");
        holds("-1000*1000+1=-999*1001");
        holds("-999*1001>-1000*1000");
        holds("-1000*1001=-1000*1000");
        holds("-9999*9999*9999=-1000*1000");
        holds("(0-9999*9999)*-1=1000*1000");
        holds("-(9999*9999)=-1000*1000");
        holds("-(-9999*9999)=1000*1000");
        holds("9999*9999-9999*9999=0");
        holds("-7=0-7 and --7=7 and ---7=0-7 and ----7=7");
        holds("--------7=7 and -------7=0-7 and 1--7=8 and 1---7=-6");
        holds("1=1 or 1/0=1");
        holds("1/0=1 or 1=1");
        holds("not 1/0=1 and 1=1");
    }

    private static void ends() {
        sentence("FAULTS, the first as TOKENS are come to, at the TOKEN's first byte (of the end at the length), "
                + "of one the least:");
        String[] parts = {"warrant", "not", "-", "(", "1", "+", "day", ")", "*", "2", "/", "last", "<=", "3", "and",
            "sky", "#", "1", "or", "seen", ">", "1", ";", "gain", "wet", "-", "-", "act", ";"};
        StringBuilder text = new StringBuilder();
        for (String part : parts) {
            text.append(part);
            boolean whole = part.equals(";");
            fault(text.toString(), whole ? 0 : 1, whole ? NONE : text.length());
            text.append(' ');
            fault(text.toString(), whole ? 0 : 1, whole ? NONE : text.length());
            text.append('\n');
            fault(text.toString(), whole ? 0 : 1, whole ? NONE : text.length());
        }
        fault("gain 10000+sky!", 2, 5);
        fault("gain 1+!10000", 1, 7);
        fault("fine sky+10000;", 5, 5);
        fault("fine 10000+sky;", 2, 5);
        fault("gain 1;gain 10000;", 4, 7);
        fault("gain 10000;gain 1;", 2, 5);
        fault("does not not not not not not not not not 10000=1;", 3, 37);
        fault("does not not not not not not not not 10000=1;", 2, 37);
        fault("10000", 1, 0);
        fault("gain 1 10000;", 1, 7);
        fault("fine 1 sky;", 1, 7);
        fault("sky;", 1, 0);
        fault("gain((((((((1(", 1, 13);
        fault("gain((((((((1 not", 1, 14);
    }

    private static void places() {
        sentence("1 it can't stand there, or is none.");
        fault("!", 1, 0);
        fault(" !", 1, 1);
        fault("gain hat;", 1, 5);
        fault("gain hats;", 5, 5);
        fault("gain hatss;", 1, 5);
        fault("gain or;", 1, 5);
        fault("gain and;", 1, 5);
        fault("gain does;", 1, 5);
        fault("gain 1;x", 1, 7);
        fault("gain 1;1", 1, 7);
        fault("gain 1; day", 1, 8);
        sentence("5 a NAME that isn't of that CLAUSE (at it).");
        sound("gain day+sky;");
        fault("gain day+last;", 5, 9);
        fault("gain -(last);", 5, 7);
        fault("toll sky;", 5, 5);
        fault("toll sky sky;", 5, 5);
        fault("warrant decree=1;", 5, 8);
        fault("does act=1;", 5, 5);
        fault("appeal wet=1;", 5, 7);
        fault("gain 1; does 1=hats;", 5, 15);
    }

    /** For each way to open eight: it is sound, and a ninth of any kind is at fault. */
    private static void opened() {
        sentence("3 the 9th of ( not and - (of one ONE) that are open around one another (at it).");
        for (int nots = 0; nots <= 8; nots++) {
            for (int brackets = 0; nots + brackets <= 8; brackets++) {
                int minus = 8 - nots - brackets;
                String ahead = "does " + "not ".repeat(nots) + "(".repeat(brackets) + "-".repeat(minus);
                String behind = ")".repeat(brackets) + "=1;";
                sound(ahead + "1" + behind);
                fault(ahead + "-1" + behind, 3, ahead.length());
                fault(ahead + "(1)" + behind, 3, ahead.length());
                int pairs = brackets / 2;
                sound("does " + "not ".repeat(nots) + "1=" + "-(".repeat(pairs) + "1" + ")".repeat(pairs) + ";");
            }
        }
        fault("does not not not not not not not not not 1=1;", 3, 37);
        sound("does not not not not not not not not 1=1 and not not not not not not not not 1=1;");
        sound("gain --------1--------1*--------1;");
        sound("gain ((((((((1))))))))+((((((((1))))))));");
        sound("gain (((((((1)))))))-(((((((-1)))))));");
        fault("gain (((((((1)))))))-(((((((--1)))))));", 3, 29);
        sound("gain -((((((1-1))))))--1;");
        sound("gain ((((((((1-1-1-1-1-1-1-1-1-1))))))));");
        fault("gain ((((((((1--1))))))));", 3, 15);
        sound("does not not not not not not not 1=1-1-(1-1-1);");
        fault("does not not not not not not not not 1=1-(1);", 3, 41);
        fault("does not not not not not not not not -1=1;", 3, 37);
        fault("does not not not not not not not not 1=-1;", 3, 39);
    }

    /** So many of these parts around one another, ahead of 1 and then closed. */
    private static String nested(String part, int times) {
        return part.repeat(times) + "1" + ")".repeat(times);
    }

    /** What is open may have a SUM and a PRODUCT waiting at each level: all of it comes to its worth. */
    private static void openedWorth() {
        sentence("3 the 9th of ( not and - (of one ONE) that are open around one another (at it).");
        // Each level is 1 more than twice the one in it: 3, 7, 15 .. 511.
        for (int brackets = 0; brackets <= 8; brackets++) {
            holds(nested("1+2*(", brackets) + "=" + ((2 << brackets) - 1));
            holds(((2 << brackets) - 1) + "=" + nested("1+2*(", brackets));
        }
        holds("1=2 or 1=1 and " + nested("1+2*(", 8) + "=" + nested("1+2*(", 8));
        holds("1=2 or 1=2 and 1=1 or 1=1 and 2=2 and 512>" + nested("1+2*(", 8));
        holds("1=2 or 1=1 and not " + nested("1+2*(", 7) + "#255");
        // As many as can wait for one another: an or, an and, an ASK, and at nine levels a SUM and a PRODUCT.
        holds("1=2 or 1=1 and 255=" + "1+2*(".repeat(8) + "1-1*1" + ")".repeat(8));
        // Each level is 3 less the one in it: 2, 1, 2, 1 ..
        holds(nested("3-(", 8) + "=1 and " + nested("3-(", 7) + "=2");
        // Each level is 1 less twice the one in it: -1, 3, -5, 11; less minus twice it: 3, 7, 15.
        holds(nested("1-2*(", 4) + "=11 and " + nested("1--2*(", 3) + "=15");
        holds("1--2*-(" + nested("1+2*(", 6) + ")=-253");
        holds(nested("-(", 4) + "=1 and " + nested("-(", 3) + "=-1 and " + nested("2*-(", 4) + "=16");
        // From the left at each level: 7 / 2 * is 3 times, and 7 - 9 + is -2 and.
        holds(nested("7/2*(", 8) + "=6561 and " + nested("7-9+(", 8) + "=-15");
        holds(nested("9*(", 8) + "=1000*1000 and -" + nested("9*(", 7) + "=-1000*1000");
    }

    private static void rules() {
        sentence("THE TEXT (told; at first none) rules.");
        WarrantWeather x = new WarrantWeather();
        is("at first none", x.about(3), NONE);
        x.folk(0, 0, 0);
        text(x, "gain 5;");
        is("a text alone doesn't", x.about(3), NONE);
        is("none rules", x.gain(0, 0, false), 0);
        x.by(0);
        is("told", x.about(3), 0);
        is("it rules", x.gain(0, 0, false), 5);
        text(x, "gain 6;");
        is("a later one doesn't", x.gain(0, 0, false), 5);
    }

    // ==== III.

    private static void does() {
        sentence("On a DAY (by its SKY and the DECREE of one's PROVINCE): one of the FOLK DOES it, if does is so "
                + "(without: not).");
        is("so", ruledBy("does 1=1;", 1, 0, 0, 0).on(0, 0, 0), 1);
        is("not so", ruledBy("does 1=2;", 1, 0, 0, 0).on(0, 0, 0), 0);
        is("without", ruledBy("gain 1;", 1, 0, 0, 0).on(0, 0, 0), 0);
        is("without a text", new WarrantWeather().of(0, 0, 2), 0);
        is("act without", ruledBy("gain act+5;", 1, 0, 0, 0).gain(0, 0, false), 5);
        WarrantWeather x = ruledBy("does decree=1;", 1, 3, 0, 0);
        x.decree(6, 2, true);
        is("not by another's decree", x.on(0, 6, 0), 0);
        x.decree(6, 3, true);
        is("by its own", x.on(0, 6, 0), 1);
        is("not on another day", x.on(0, 5, 0) + x.on(0, 7, 0), 0);
    }

    private static void fines() {
        sentence("FINE: fine (0 at least, 999 at most; without: 0), but 0, if appeal is so.");
        int[][] held = {{-9999, 0}, {-2, 0}, {-1, 0}, {0, 0}, {1, 1}, {2, 2}, {998, 998}, {999, 999}, {1000, 999},
            {1001, 999}, {9999, 999}};
        for (int[] one : held) {
            is("fine " + one[0], ruledBy("fine " + one[0] + ";", 1, 0, 0, 0).on(0, 0, 1), one[1]);
            is("in gain " + one[0], ruledBy("fine " + one[0] + "; gain 0;", 1, 0, 0, 0).gain(0, 0, true), -one[1]);
            is("appeal not so " + one[0], ruledBy("fine " + one[0] + "; appeal 1=2;", 1, 0, 0, 0).on(0, 0, 1), one[1]);
            is("appeal so " + one[0], ruledBy("fine " + one[0] + "; appeal 1=1;", 1, 0, 0, 0).on(0, 0, 1), 0);
        }
        is("without", ruledBy("gain 1;", 1, 0, 0, 0).on(0, 0, 1), 0);
        is("no appeal without", ruledBy("fine 1;", 1, 0, 0, 0).on(0, 0, 2), 0);
        is("appeal without fine", ruledBy("appeal 1=1;", 1, 0, 0, 0).on(0, 0, 2), 1);
    }

    private static void gains() {
        sentence("GAIN: gain (-9999 at least, 9999 at most; without: 0), truly: wet is whether it is truly wet; "
                + "by paper: wet is the DECREE; each less FINE.");
        String[] sums = {"-9999-9999", "-9999-2", "-9999-1", "-9999", "1-9999", "-1", "0", "1", "9998", "9999", "9999+1",
            "9999+2", "9999*9999"};
        int[] held = {-9999, -9999, -9999, -9999, -9998, -1, 0, 1, 9998, 9999, 9999, 9999, 9999};
        for (int i = 0; i < sums.length; i++) {
            WarrantWeather x = ruledBy("gain " + sums[i] + ";", 1, 0, 0, 0);
            is("gain " + sums[i], x.gain(0, 0, false), held[i]);
            is("by paper " + sums[i], x.gain(0, 0, true), held[i]);
            WarrantWeather y = ruledBy("gain " + sums[i] + "; fine 1000;", 1, 0, 0, 0);
            is("then less fine " + sums[i], y.gain(0, 0, false), held[i] - 999);
        }
        is("without", ruledBy("fine 0;", 1, 0, 0, 0).gain(0, 0, false), 0);
        is("without, less fine", ruledBy("fine 2;", 1, 0, 0, 0).gain(0, 0, false), -2);
        WarrantWeather most = ruledBy("gain 9999;", 12, 0, 0, 0);
        is("most of all", most.sum(NONE, 0, 29, false), 3599640);
        WarrantWeather least = ruledBy("gain -9999; fine 999;", 12, 0, 0, 0);
        is("least of all", least.sum(NONE, 0, 29, false), -3959280);
        for (int sky = 4; sky <= 6; sky++) {
            WarrantWeather x = ruledBy("gain wet*10+decree;", 1, 1, 0, 0);
            x.sky(3, sky);
            x.decree(4, 1, true);
            is("truly by " + sky, x.gain(0, 3, false), sky < 5 ? 0 : 10);
            is("by paper by " + sky, x.gain(0, 3, true), 0);
            x.sky(4, sky);
            is("truly, decreed wet, by " + sky, x.gain(0, 4, false), sky < 5 ? 1 : 11);
            is("by paper, decreed wet, by " + sky, x.gain(0, 4, true), 11);
        }
    }

    private static void ruined() {
        sentence("RUINED: FOLK whose true GAINS of all DAYS together are less than - RUIN.");
        // 30 days of 1 lost each.
        int[][] tried = {{0, 1}, {28, 1}, {29, 1}, {30, 0}, {31, 0}, {9999, 0}};
        for (int[] one : tried) {
            WarrantWeather x = ruledBy("gain -1;", 1, 0, 0, 0);
            x.ruin(one[0]);
            is("30 lost by RUIN " + one[0], x.ruined(NONE), one[1]);
            is("which " + one[0], x.ruined(0), one[1] == 1 ? 0 : NONE);
        }
        is("nothing lost by RUIN 0", ruledBy("gain 0;", 1, 0, 0, 0).ruined(NONE), 0);
        is("1 lost by RUIN 0", ruledBy("gain -(day/29);", 1, 0, 0, 0).ruined(NONE), 1);
        is("1 gained by RUIN 0", ruledBy("gain day/29;", 1, 0, 0, 0).ruined(NONE), 0);
        is("by fines, too", ruledBy("fine day/29;", 1, 0, 0, 0).ruined(NONE), 1);
        is("the first day counts", ruledBy("gain -((29-day)/29);", 1, 0, 0, 0).ruined(NONE), 1);
        WarrantWeather x = ruledBy("gain -wet;", 1, 0, 0, 0);
        x.decree(3, 0, true);
        is("not by paper", x.ruined(NONE), 0);
        x.sky(4, 5);
        is("truly", x.ruined(NONE), 1);
    }

    private static void led() {
        sentence("LED of one of the FOLK: the DAY by whose DECREE (of its PROVINCE) being the other one its true GAIN "
                + "on that DAY would be most more (1 at least), of like ones the first: how much; none.");
        WarrantWeather none = ruledBy("gain 5;", 1, 0, 0, 0);
        is("0 more is none", none.led(0, 0), NONE);
        is("0 more is none", none.led(0, 1), NONE);
        WarrantWeather less = ruledBy("gain -decree;", 1, 0, 0, 0);
        is("less is none", less.led(0, 0), NONE);
        WarrantWeather one = ruledBy("gain decree*(day/29);", 1, 0, 0, 0);
        is("1 more, on the last day", one.led(0, 0) * 10 + one.led(0, 1), 291);
        WarrantWeather first = ruledBy("gain decree;", 1, 0, 0, 0);
        is("of like ones the first", first.led(0, 0) * 10 + first.led(0, 1), 1);
        first.decree(0, 0, true);
        is("then the next", first.led(0, 0) * 10 + first.led(0, 1), 11);
        WarrantWeather more = ruledBy("gain decree*(1+day/10);", 1, 0, 0, 0);
        is("a later one that is more", more.led(0, 0) * 10 + more.led(0, 1), 203);
        WarrantWeather back = ruledBy("gain -decree*7;", 1, 2, 0, 0);
        back.decree(11, 2, true);
        back.decree(12, 1, true);
        is("sunny may be the other one", back.led(0, 0) * 10 + back.led(0, 1), 117);
        WarrantWeather most = ruledBy("gain decree*2*9999-9999; fine (1-decree)*9999;", 1, 0, 0, 0);
        is("as much as there can be", most.led(0, 1), 9999 + 9999 + 999);
        sentence("(hats, too, by that.)");
        WarrantWeather hats = ruledBy("does decree=1; fine 5; appeal hats=2;", 2, 1, 0, 0);
        is("both hats by the other one", hats.led(0, 0) * 10 + hats.led(0, 1), 5);
        hats.folk(1, 0, 0);
        is("three by the other one", hats.led(0, 0), NONE);
    }

    private static void odds() {
        sentence("ODDS of a DAY and a PROVINCE: of SKIES 0 .. 9 by which each of its FOLK would DO just as it DOES "
                + "(the DECREE as it is), CHANCES of those truly wet by CHANCES of all of them, in lowest terms; "
                + "none, if that is 0.");
        for (int sky = 0; sky <= 9; sky++) {
            WarrantWeather x = ruledBy("does sky=" + sky + ";", 1, 0, 0, 0);
            x.sky(0, sky);
            is("that sky alone " + sky, x.odds(0, 0, 0) * 10 + x.odds(0, 0, 1), sky < 5 ? 1 : 11);
            x.chance(sky, 0);
            is("without a chance " + sky, x.odds(0, 0, 0), NONE);
            is("without a chance " + sky, x.odds(0, 0, 1), NONE);
            x.sky(1, (sky + 1) % 10);
            is("by the others " + sky, x.odds(1, 0, 0) * 10 + x.odds(1, 0, 1), sky < 5 ? 59 : 49);
        }
        WarrantWeather x = new WarrantWeather();
        is("5 by 10", x.odds(0, 0, 0) * 100 + x.odds(0, 0, 1), 102);
        x.chance(0, 2);
        is("5 by 11", x.odds(0, 0, 0) * 100 + x.odds(0, 0, 1), 511);
        x.chance(9, 9);
        is("13 by 19", x.odds(0, 0, 0) * 100 + x.odds(0, 0, 1), 1319);
        x.chance(0, 9);
        is("13 by 26", x.odds(0, 0, 0) * 100 + x.odds(0, 0, 1), 102);
        for (int sky = 5; sky <= 9; sky++) {
            x.chance(sky, 0);
        }
        is("0 by 13", x.odds(0, 0, 0) * 100 + x.odds(0, 0, 1), 1);
        for (int sky = 1; sky <= 4; sky++) {
            x.chance(sky, 0);
        }
        is("0 by 9", x.odds(0, 0, 0) * 100 + x.odds(0, 0, 1), 1);
        x.chance(0, 0);
        is("0 by 0", x.odds(0, 0, 0), NONE);
        is("0 by 0", x.odds(0, 0, 1), NONE);
        WarrantWeather y = ruledBy("does sky+fear>9*decree;", 1, 0, 0, 1);
        y.folk(0, 0, 5);
        y.decree(0, 0, true);
        y.sky(0, 8);
        // By 8 the first does not and the second does: so it is from 5 on to 8.
        is("each of its folk", y.odds(0, 0, 0) * 10 + y.odds(0, 0, 1), 11);
        y.sky(0, 4);
        is("neither does up to 4", y.odds(0, 0, 0) * 10 + y.odds(0, 0, 1), 1);
        y.decree(0, 0, false);
        is("by a decree of sunny both do by any", y.odds(0, 0, 0) * 10 + y.odds(0, 0, 1), 12);
    }

    // ==== IV.

    /** The plan as digits, its first day the highest. */
    private static long planned(WarrantWeather x, int province, int from, int n) {
        long digits = 0;
        for (int i = 0; i < n; i++) {
            digits = digits * 10 + x.plan(province, from, n, i);
        }
        return digits;
    }

    private static void plans() {
        sentence("PLAN for a PROVINCE from a DAY on, n DAYS (1 to 10): DECREES for these, so that no two of these DAYS "
                + "with the same last (by the PLAN itself, at the first one as it is) and seen have unlike ones; "
                + "the true GAINS of its FOLK on them together are greatest; of like ones that with sunny on the first DAY "
                + "on which they part.");
        WarrantWeather x = ruledBy("gain decree*(1-2*((day+1)/2));", 1, 0, 0, 0);
        // By one sky there are 000, 101 and 111 alone; wet is worth 1, -1, -1.
        is("0 days", x.plan(0, 0, 0, NONE), NO_SUM);
        is("1 day", planned(x, 0, 0, 1) * 10 + x.plan(0, 0, 1, NONE), 11);
        is("3 days, of like ones sunny first", planned(x, 0, 0, 3) * 10 + x.plan(0, 0, 3, NONE), 0);
        WarrantWeather y = ruledBy("gain decree*(1-(day+1)/2);", 1, 0, 0, 0);
        // Worth 1, 0, 0: 101 and 111 are like ones, they part on day 1.
        is("3 days, they part on the second", planned(y, 0, 0, 3) * 10 + y.plan(0, 0, 3, NONE), 1011);
        WarrantWeather v = ruledBy("gain decree*(1-2*(day-3)*(day-3));", 1, 1, 0, 0);
        // Worth -1, 1, -1 on days 2 to 4: by last 0 there are 000, 101 and 111, by last 1 there are 000, 010 and 111.
        is("last as it is, sunny", planned(v, 1, 2, 3) * 10 + v.plan(1, 2, 3, NONE), 0);
        v.decree(1, 0, true);
        is("last of another province", planned(v, 1, 2, 3), 0);
        v.decree(1, 1, true);
        is("last as it is, wet", planned(v, 1, 2, 3) * 10 + v.plan(1, 2, 3, NONE), 101);
        WarrantWeather z = ruledBy("gain decree*(day-3)*10-day;", 1, 1, 0, 0);
        // Worth -10, 0, 10 on days 2 to 4, and 9 are lost by any: 000, 101 and 111 are like ones.
        is("of three like ones", planned(z, 1, 2, 3), 0);
        is("gained", z.plan(1, 2, 3, NONE), -9);
        z.sky(1, 1);
        z.sky(2, 2);
        z.sky(3, 3);
        is("told apart by seen", planned(z, 1, 2, 3), 1);
        is("gained", z.plan(1, 2, 3, NONE), 1);
        is("10 days", ruledBy("gain decree;", 1, 3, 0, 0).plan(3, 20, 10, NONE), 10);
        is("11 days", ruledBy("gain decree;", 1, 3, 0, 0).plan(3, 10, 11, NONE), NO_SUM);
        WarrantWeather w = ruledBy("gain decree*(5-day);", 1, 0, 0, 0);
        for (int day = 0; day < 10; day++) {
            w.sky(day, day);
        }
        // Each day has another seen, but for day 0 and 1; wet on day 5 is worth 0.
        is("10 days told apart", planned(w, 0, 0, 10), 1111100000L);
        is("gained", w.plan(0, 0, 10, NONE), 15);
        is("nobody there", planned(w, 2, 0, 10), 0);
    }

    private static void foundOut() {
        sentence("FOUND OUT in a PROVINCE: the first DAY for which there is an earlier one with the same last and seen, "
                + "but another DECREE; none.");
        WarrantWeather x = new WarrantWeather();
        is("none", x.found(0, 0), NONE);
        x.decree(0, 0, true);
        // Day 0 is wet by 0 and 0, day 1 sunny by 1 and 0, day 2 sunny by 0 and 0.
        is("day 0 is an earlier one", x.found(0, 0) * 10 + x.found(0, 1), 20);
        x.decree(0, 0, false);
        x.decree(29, 0, true);
        is("the last day", x.found(0, 0) * 10 + x.found(0, 1), 290);
        x.decree(28, 0, true);
        is("an earlier one is the first", x.found(0, 0) * 10 + x.found(0, 1), 280);
        WarrantWeather y = new WarrantWeather();
        y.sky(28, 1);
        y.decree(29, 3, true);
        is("another seen", y.found(3, 0), NONE);
        y.sky(27, 1);
        is("the same seen, the day just ahead", y.found(3, 0) * 100 + y.found(3, 1), 2928);
        y.sky(9, 1);
        is("the first of the earlier ones", y.found(3, 0) * 100 + y.found(3, 1), 2910);
        y.decree(28, 3, true);
        // Day 28 is wet by 0 and 1 now, day 10 sunny.
        is("and then that one", y.found(3, 0) * 100 + y.found(3, 1), 2810);
        is("elsewhere none", y.found(2, 0), NONE);
        WarrantWeather z = new WarrantWeather();
        for (int day = 0; day < 30; day++) {
            z.decree(day, 1, true);
        }
        // Day 0 is wet by last 0, all others by last 1.
        is("always wet", z.found(1, 0), NONE);
        z.decree(29, 1, false);
        is("but on the last day", z.found(1, 0) * 10 + z.found(1, 1), 291);
    }

    private static void evens() {
        sentence("EVEN for a DAY: DECREES of all PROVINCES (bits) by which no PROVINCE alone would have more by the "
                + "other one: it has the true GAINS of its FOLK by its DECREE, and toll (-999 at least, 999 at most; without: 0) "
                + "with mine (its DECREE) and others (how many other PROVINCES have the other one).");
        int[][] tolls = {{0, 0}, {1, 1}, {2, 2}, {998, 998}, {999, 999}, {1000, 999}, {1001, 999}, {9999, 999}};
        for (int[] toll : tolls) {
            for (int gained = Math.max(0, toll[1] - 1); gained <= toll[1] + 1; gained++) {
                // Of province 0 alone; the others would stay sunny by any toll, and do as they like by none.
                int sunny = gained <= toll[1] ? 1 : 0;
                int wet = gained >= toll[1] ? 1 : 0;
                long want = (sunny + wet) * (toll[0] == 0 ? 8 : 1);
                String gain = "gain decree*" + gained + ";";
                WarrantWeather x = ruledBy(gain + "toll mine*-" + toll[0] + ";", 1, 0, 0, 0);
                is("gain " + gained + " by toll -" + toll[0], x.even(0, NONE), want);
                is("the first", x.even(0, 0), sunny == 1 ? 0 : 1);
                WarrantWeather y = ruledBy(gain + "toll (1-mine)*" + toll[0] + ";", 1, 0, 0, 0);
                is("gain " + gained + " by toll " + toll[0], y.even(0, NONE), want);
            }
        }
        WarrantWeather none = ruledBy("gain decree;", 1, 3, 0, 0);
        is("without toll", none.even(0, NONE), 8);
        is("province 3 is bit 3", none.even(0, 0), 8);
        WarrantWeather first = ruledBy("gain decree;", 1, 0, 0, 0);
        is("province 0 is bit 0", first.even(0, 0), 1);
        is("no gain, no toll", ruledBy("gain 1;", 1, 0, 0, 0).even(0, NONE), 16);
        // Each has 1 by just so many others that have the other one. By 0 some of 1 or 3 wet ones would turn, by 1 of 2,
        // by 2 of 1 or 3, by 3 all of none or 4.
        int[] even = {8, 10, 8, 14};
        for (int others = 0; others <= 3; others++) {
            WarrantWeather x = ruledBy("toll 1-((others-" + others + ")*(others-" + others + ")+9)/10;");
            is("just " + others + " others", x.even(0, NONE), even[others]);
        }
        WarrantWeather day = ruledBy("toll mine*(day-15);");
        is("day 14", day.even(14, NONE) * 100 + day.even(14, 0), 100);
        is("day 15", day.even(15, NONE), 16);
        is("day 16", day.even(16, NONE) * 100 + day.even(16, 0), 115);
    }

    private static void floods() {
        sentence("FLOODS that weren't: DAYS with DECREE wet in all PROVINCES that aren't truly wet.");
        for (int sky = 0; sky <= 9; sky++) {
            for (int wet = 0; wet <= 4; wet++) {
                WarrantWeather x = new WarrantWeather();
                x.sky(29, sky);
                for (int province = 4 - wet; province < 4; province++) {
                    x.decree(29, province, true);
                }
                boolean is = sky < 5 && wet == 4;
                is("sky " + sky + ", wet in " + wet, x.flood(NONE), is ? 1 : 0);
                is("sky " + sky + ", wet in " + wet, x.flood(0), is ? 29 : NONE);
            }
        }
        WarrantWeather x = new WarrantWeather();
        for (int cell = 1; cell < 5; cell++) {
            x.decree(cell / 4, cell % 4, true);
        }
        is("four of two days are none", x.flood(NONE), 0);
    }

    private static void reforms() {
        sentence("REFORM: the CLAUSE of THE TEXT without which the true GAINS of all FOLK on all DAYS (DECREES as they are) "
                + "are most more (1 at least), of like ones the first (by number in THE TEXT, from 0).");
        WarrantWeather zero = ruledBy("gain 5; fine 0;", 1, 0, 0, 0);
        is("0 more is none", zero.reform(0), NONE);
        is("0 more is none", zero.reform(1), NONE);
        WarrantWeather one = ruledBy("gain 5; fine day/29;", 1, 0, 0, 0);
        is("1 more", one.reform(0) * 10 + one.reform(1), 11);
        WarrantWeather first = ruledBy("fine (29-day)/29;", 1, 3, 0, 0);
        is("1 more on the first day", first.reform(0) * 10 + first.reform(1), 1);
        String[] words = {"toll 1;", "warrant 1=1;", "does 1=2;", "appeal 1=2;", "gain 5;", "fine 1;"};
        for (int at = 0; at < 6; at++) {
            StringBuilder law = new StringBuilder();
            for (int i = 0; i < 6; i++) {
                law.append(words[(i - at + 11) % 6]);
            }
            WarrantWeather x = ruledBy(law.toString(), 1, 0, 0, 0);
            is("fine as number " + at, x.reform(0) * 100 + x.reform(1), 100 * at + 30);
        }
        WarrantWeather like = ruledBy("toll 0; fine act; does 1=1;", 1, 0, 0, 0);
        is("of like ones the first", like.reform(0) * 100 + like.reform(1), 130);
        WarrantWeather other = ruledBy("toll 0; does 1=1; fine act;", 1, 0, 0, 0);
        is("of like ones the first", other.reform(0) * 100 + other.reform(1), 130);
        WarrantWeather more = ruledBy("fine 1; gain -2;", 2, 0, 0, 0);
        is("a later one that is more", more.reform(0) * 1000 + more.reform(1), 1120);
        WarrantWeather appeal = ruledBy("fine 1; appeal 1=1; gain 2;", 1, 0, 0, 0);
        is("an appeal that helps stays", appeal.reform(0), NONE);
        is("and all is as it was", appeal.sum(NONE, 0, 29, false), 60);
        WarrantWeather kept = ruledBy("warrant 1=1; does 1=1; gain act; toll mine;", 1, 0, 0, 0);
        kept.reform(0);
        is("no clause has gone: toll", kept.even(0, NONE) * 100 + kept.even(0, 0), 115);
        is("does and gain", kept.gain(0, 0, false), 1);
        is("warrant", kept.warrant(0, 29), 120);
    }

    private static void songs() {
        sentence("SONG: the tape as words (letters a .. z one behind the other, blanks between, 32; other bytes: "
                + "it is none; one word at least): the k-th one (from 0) tells of DAY d + k that its SKY is how many vowels (a e i o u) "
                + "it has, and KEY (0 .. 9) more, by 10 what is left.");
        for (int b = 0; b < 256; b++) {
            boolean letter = b >= 97 && b <= 122;
            int words = letter ? 1 : b == 32 ? 2 : NONE;
            WarrantWeather x = taped("b" + (char) b + "b");
            is("byte " + b + " heard", x.heard(0, 0) != NONE, words != NONE);
            is("byte " + b + " between", x.sing(0, 0), words);
            boolean vowel = "aeiou".indexOf((char) b) >= 0;
            is("byte " + b + " as a vowel", x.of(0, 0, 0), vowel ? 1 : 0);
            is("byte " + b + " alone", taped("" + (char) b).sing(0, 0), letter ? 1 : NONE);
        }
        is("no word", taped("").sing(0, 0), NONE);
        is("one word", taped("b").sing(0, 0), 1);
        is("two words", taped("b b").sing(0, 0), 2);
        for (int vowels = 0; vowels <= 21; vowels++) {
            for (int key = 0; key <= 9; key++) {
                WarrantWeather x = taped("b" + "u".repeat(vowels));
                x.sing(29, key);
                is(vowels + " vowels by key " + key, x.of(29, 0, 0), (vowels + key) % 10);
            }
        }
        WarrantWeather x = taped("b a ae aei aeio aeiou");
        is("from day 24 on", x.sing(24, 0), 6);
        for (int k = 0; k < 6; k++) {
            is("the k-th one " + k, x.of(24 + k, 0, 0), k);
        }
        is("not the day ahead", x.of(23, 0, 0), 0);
    }

    private static void drawn() {
        sentence("DRAWN SKIES: X is SEED (0 .. 9999) * 11 + 7; DAY by DAY X mod 10, X being (X * 233 + 61) mod 30139 then.");
        // X: 7, 1692, 2490; 18, 4255, 27028; 109985, 8416, 1954; 109996, 10979, 26492.
        int[][] firsts = {{0, 7, 2, 0}, {1, 8, 5, 8}, {9998, 5, 6, 4}, {9999, 6, 9, 2}};
        for (int[] one : firsts) {
            WarrantWeather x = new WarrantWeather();
            x.skies(one[0]);
            for (int day = 0; day < 3; day++) {
                is("seed " + one[0] + ", day " + day, x.of(day, 0, 0), one[1 + day]);
            }
        }
        is("below", new WarrantWeather().skies(-1), NONE);
        is("above", new WarrantWeather().skies(10000), NONE);
    }

    private static void images() {
        sentence("AN IMAGE: all as it is, STEPS as well, but the tape and the latest FAULT; "
                + "TEXTS told behind it are gone behind going back.");
        for (int texts = 0; texts <= 3; texts++) {
            WarrantWeather x = new WarrantWeather();
            x.folk(0, 0, 0);
            for (int i = 0; i < texts; i++) {
                text(x, "gain " + (10 + i) + ";");
            }
            x.by(texts - 1);
            x.image();
            for (int i = texts; i < 4; i++) {
                is("told behind it", text(x, "gain " + (20 + i) + ";"), i);
            }
            x.by(3);
            is("it rules", x.gain(0, 0, false), 23);
            tape(x, "gain 10000;");
            x.back();
            is("gone", x.about(2), texts);
            is("can't rule", x.by(texts), false);
            is("the one that ruled", x.about(3), texts - 1);
            is("as it was", x.gain(0, 0, false), texts == 0 ? 0 : 9 + texts);
            is("the tape isn't of it", x.about(5), 11);
            is("nor the fault", x.fault(0), 0);
            is("read with a fault", x.text(), NONE);
            x.back();
            is("the fault stays", x.fault(0) * 10 + x.fault(1), 25);
            is("told anew", text(x, "gain 30;"), texts);
        }
        WarrantWeather steps = stepped(60);
        steps.image();
        steps.undo();
        steps.decree(20, 0, true);
        steps.decree(20, 1, true);
        steps.back();
        is("60 steps again", steps.about(4), 60);
        is("the latest one", steps.undo(), 143);
        for (int i = 58; i >= 0; i--) {
            is("each of them", steps.undo(), 10 * (i / 4) + i % 4);
        }
        is("and none more", steps.undo(), NONE);
    }

    /** The document bounds the calls of an object: the answers hold up to the last of them. */
    private static void calls() {
        said = "(512 calls) ";
        WarrantWeather x = new WarrantWeather();
        for (int call = 1; call < 512; call++) {
            is("call " + call, x.decree(call % 30, call % 4, call / 120 % 2 == 0), true);
        }
        is("call 512", x.about(4), 60);
    }

    public static void main(String[] args) throws IOException {
        document = new Document();
        skies();
        decrees();
        folk();
        chances();
        ruin();
        steps();
        stepsOfWarrants();
        texts();
        bytes();
        tokens();
        numbers();
        clauses();
        shapes();
        daysAhead();
        hats();
        worth();
        ends();
        places();
        opened();
        openedWorth();
        rules();
        does();
        fines();
        gains();
        ruined();
        led();
        odds();
        plans();
        foundOut();
        evens();
        floods();
        reforms();
        songs();
        drawn();
        images();
        calls();
        for (String left : document.unquoted("Terms")) {
            due("no test for " + left, 0, 1);
        }
        tellAll();
    }
}

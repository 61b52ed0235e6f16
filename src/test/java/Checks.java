import java.util.function.IntToLongFunction;
import java.util.function.Supplier;
import java.util.function.ToLongFunction;

/** What the tests by hand share: answers are counted, tapes and texts told, ranges walked along. */
abstract class Checks {
    static final int NONE = WarrantWeather.NONE;
    static final int LEAST = Integer.MIN_VALUE;
    static final int MOST = Integer.MAX_VALUE;
    static final int NO_SUM = -100000000;
    private static int wrong;
    private static int asked;

    /** A call with one of its arguments left open. */
    interface At {
        long at(WarrantWeather x, int value);
    }

    static void due(String what, long got, long want) {
        asked++;
        if (got != want) {
            wrong++;
            System.out.println(what + ": answered " + got + ", due is " + want);
        }
    }

    static void due(String what, boolean got, boolean want) {
        due(what, one(got), one(want));
    }

    static long one(boolean so) {
        return so ? 1 : 0;
    }

    /** Tells how it went, and ends the run with 1 if an answer was not as due. */
    static void tellAll() {
        System.out.println(asked + " answers, " + wrong + " of them not as due");
        if (wrong != 0) {
            System.exit(1);
        }
    }

    /** Makes the tape these signs alone. */
    static void tape(WarrantWeather x, String signs) {
        x.end(0);
        for (int from = 0; from < signs.length(); from += 20) {
            int[] w = new int[5];
            for (int k = 0; k < 20; k++) {
                int sign = from + k < signs.length() ? signs.charAt(from + k) : ' ';
                w[k / 4] = w[k / 4] << 8 | sign;
            }
            x.feed(w[0], w[1], w[2], w[3], w[4]);
        }
        x.end(signs.length());
    }

    static int text(WarrantWeather x, String signs) {
        tape(x, signs);
        return x.text();
    }

    static WarrantWeather taped(String signs) {
        WarrantWeather x = new WarrantWeather();
        tape(x, signs);
        return x;
    }

    /** A new object that is ruled by this text. */
    static WarrantWeather ruledBy(String signs) {
        WarrantWeather x = new WarrantWeather();
        x.by(text(x, signs));
        return x;
    }

    /** A new object that is ruled by this text, with so many alike of the folk. */
    static WarrantWeather ruledBy(String signs, int count, int province, int trade, int fear) {
        WarrantWeather x = ruledBy(signs);
        for (int i = 0; i < count; i++) {
            x.folk(province, trade, fear);
        }
        return x;
    }

    /** All that can be looked at without changing anything: 184 calls. */
    static String all(WarrantWeather x) {
        StringBuilder all = new StringBuilder();
        for (int what = 0; what < 32; what++) {
            all.append(x.about(what)).append(' ');
        }
        for (int day = 0; day < 30; day++) {
            all.append(x.of(day, 0, 0)).append(':');
            for (int province = 0; province < 4; province++) {
                all.append(x.of(day, province, 1));
            }
        }
        return all.append(' ').append(x.fault(0)).append(' ').append(x.fault(1)).toString();
    }

    /** The answer is that one, and all is as it was. */
    static void changesNothing(String what, WarrantWeather x, ToLongFunction<WarrantWeather> call, long answer) {
        String before = all(x);
        due(what, call.applyAsLong(x), answer);
        due(what + " does nothing", all(x).equals(before), true);
    }

    /** One argument outside its range, by one and by far: refused, and nothing is done. */
    static void refusedBeyond(String what, int least, int most, long refusal, Supplier<WarrantWeather> scene, At call) {
        for (int value : new int[] {LEAST, least - 1, most + 1, MOST}) {
            changesNothing(what + " " + value, scene.get(), x -> call.at(x, value), refusal);
        }
    }

    /** One argument from below its range to above it: what is due within, refused beyond. */
    static void range(String what, int least, int most, long refusal, Supplier<WarrantWeather> scene, At call,
            IntToLongFunction want) {
        refusedBeyond(what, least, most, refusal, scene, call);
        for (int value = least; value <= most; value++) {
            // Of a long range its ends and their neighbours.
            if (value < least + 20 || value > most - 20) {
                due(what + " " + value, call.at(scene.get(), value), want.applyAsLong(value));
            }
        }
    }
}

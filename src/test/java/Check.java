import java.util.Arrays;

/** Counts answers that are not the ones due, and makes objects that stand ready for a test. */
final class Check {
    private static int asked = 0;
    private static int wrong = 0;
    private static String promise = "";

    private Check() {
    }

    static void promise(String name) {
        promise = name;
    }

    static void due(String call, long got, long want) {
        asked++;
        if (got != want) {
            wrong++;
            System.out.println(promise + ": " + call + " answered " + got + ", due is " + want);
        }
    }

    static void told(StrikeDays x, String call, int got, int want) {
        due(call, got, 1);
        due(call + " asked()", x.asked(), want);
    }

    static void fraction(StrikeDays x, String call, int got, long upper, long lower) {
        due(call, got, 1);
        due(call + " upper()", x.upper(), upper);
        due(call + " lower()", x.lower(), lower);
    }

    /** A call that answers with a FINDING: of that number, counted once more. */
    static void finding(StrikeDays x, String call, int before, int got, int f) {
        due(call, got, StrikeDays.FINDING);
        due(call + " finding()", x.finding(), f);
        due(call + " findings()", x.findings(f), before + 1);
    }

    /** All that can be seen from outside and that a refused call must leave as it is, but for FINDINGS. */
    static long[] seen(StrikeDays x) {
        return new long[] {x.digest(), x.asked(), x.upper(), x.lower()};
    }

    static long[] findings(StrikeDays x) {
        return new long[] {
            x.finding(), x.findings(1), x.findings(2), x.findings(3), x.findings(4), x.findings(5)
        };
    }

    static void same(String call, long[] got, long[] want) {
        due(call + ": " + Arrays.toString(got) + " for " + Arrays.toString(want), Arrays.equals(got, want) ? 1 : 0, 1);
    }

    static void close() {
        System.out.println(asked + " answers, " + wrong + " not as due");
        if (wrong != 0 || asked == 0) {
            System.exit(1);
        }
    }

    static void write(StrikeDays x, int t, String signs) {
        x.text(t, signs.length());
        for (int i = 0; i < signs.length(); i++) {
            x.put(t, i, signs.charAt(i));
        }
    }

    static StrikeDays quarrelOf(String signs) {
        StrikeDays x = new StrikeDays();
        write(x, 0, signs);
        due("quarrel of " + signs, Math.min(x.quarrel(0), 2), 2);
        return x;
    }

    /** An OFFER (WAY 0) and a TAKE (WAY 1), each of one number throughout. */
    static StrikeDays level(String quarrel, int offered, int taken) {
        StrikeDays x = quarrelOf(quarrel);
        x.way(0, 1);
        x.way(1, 2);
        for (int sort = 0; sort < 3; sort++) {
            for (int day = 1; day <= 10; day++) {
                x.set(0, sort, day, offered);
                x.set(1, sort, day, taken);
            }
        }
        return x;
    }

    /** Numbers of a SORT from day 1 on. */
    static void numbers(StrikeDays x, int w, int sort, int... byDay) {
        for (int i = 0; i < byDay.length; i++) {
            x.set(w, sort, i + 1, byDay[i]);
        }
    }

    static void numbersAre(StrikeDays x, int w, int sort, int... byDay) {
        for (int i = 0; i < byDay.length; i++) {
            due("at(" + w + ", " + sort + ", " + (i + 1) + ")", x.at(w, sort, i + 1), byDay[i]);
        }
    }
}

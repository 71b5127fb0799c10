/** Counts answers that are not the ones due, and makes objects that stand ready for a test. */
final class Check {
    private static int asked = 0;
    private static int wrong = 0;
    private static String promise = "";

    private Check() {
    }

    static void promise(String name) {
        promise = name;
    }

    static void due(String call, long got, long want) {
        asked++;
        if (got != want) {
            wrong++;
            System.out.println(promise + ": " + call + " answered " + got + ", due is " + want);
        }
    }

    static void told(StrikeDays x, String call, int got, int want) {
        due(call, got, 1);
        due(call + " asked()", x.asked(), want);
    }

    static void fraction(StrikeDays x, String call, int got, long upper, long lower) {
        due(call, got, 1);
        due(call + " upper()", x.upper(), upper);
        due(call + " lower()", x.lower(), lower);
    }

    /** A call that answers with a FINDING: of that number, counted once more. */
    static void finding(StrikeDays x, String call, int before, int got, int f) {
        due(call, got, StrikeDays.FINDING);
        due(call + " finding()", x.finding(), f);
        due(call + " findings()", x.findings(f), before + 1);
    }

    static void close() {
        System.out.println(asked + " answers, " + wrong + " not as due");
        if (wrong != 0 || asked == 0) {
            System.exit(1);
        }
    }

    static void write(StrikeDays x, int t, String signs) {
        x.text(t, signs.length());
        for (int i = 0; i < signs.length(); i++) {
            x.put(t, i, signs.charAt(i));
        }
    }

    static StrikeDays quarrelOf(String signs) {
        StrikeDays x = new StrikeDays();
        write(x, 0, signs);
        due("quarrel of " + signs, Math.min(x.quarrel(0), 2), 2);
        return x;
    }

    /** Numbers of a SORT from day 1 on. */
    static void numbers(StrikeDays x, int w, int sort, int... byDay) {
        for (int i = 0; i < byDay.length; i++) {
            x.set(w, sort, i + 1, byDay[i]);
        }
    }

    static void numbersAre(StrikeDays x, int w, int sort, int... byDay) {
        for (int i = 0; i < byDay.length; i++) {
            due("at(" + w + ", " + sort + ", " + (i + 1) + ")", x.at(w, sort, i + 1), byDay[i]);
        }
    }
}

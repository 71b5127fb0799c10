/** Promises 7 to 14: texts, the quarrel, notice and the judge. */
public final class QuarrelTest {
    public static void main(String[] args) {
        text();
        put();
        fault();
        quarrel();
        told();
        sort();
        notice();
        judge();
        Check.close();
    }

    private static void text() {
        Check.promise("7 text");
        StrikeDays x = new StrikeDays();
        Check.due("text(0, 0)", x.text(0, 0), 0);
        Check.due("text(3, 60)", x.text(3, 60), 60);
        Check.due("text(3, 61)", x.text(3, 61), StrikeDays.BAD);
        Check.due("text(4, -1)", x.text(4, -1), StrikeDays.BAD);
        Check.due("text(-1, 1)", x.text(-1, 1), StrikeDays.BAD);
        Check.finding(x, "text(0, -1)", 0, x.text(0, -1), 5);
        Check.due("put(3, 59, 1)", x.put(3, 59, 1), 1032);
        x.text(3, 60);
        Check.due("put behind text anew", x.put(3, 59, 1), 1032);
        Check.due("count(1)", x.count(1), 2);
    }

    private static void put() {
        Check.promise("8 put");
        StrikeDays x = new StrikeDays();
        x.text(1, 2);
        Check.due("put(1, 0, 127)", x.put(1, 0, 127), 1032);
        Check.due("put(1, 0, 128)", x.put(1, 0, 128), 1127);
        Check.due("put(1, 0, 255)", x.put(1, 0, 255), 872);
        Check.due("put(1, 0, 256)", x.put(1, 0, 256), 999);
        Check.due("put(1, 0, -129)", x.put(1, 0, -129), 1000);
        Check.due("put(1, 0, 0)", x.put(1, 0, 0), 1127);
        Check.finding(x, "put(1, 2, 0)", 0, x.put(1, 2, 0), 2);
        Check.finding(x, "put(1, -1, 0)", 1, x.put(1, -1, 0), 2);
        Check.finding(x, "put(0, 5, 0)", 0, x.put(0, 5, 0), 1);
        Check.due("put(4, 0, 0)", x.put(4, 0, 0), StrikeDays.BAD);
        Check.due("put(-1, 0, 0)", x.put(-1, 0, 0), StrikeDays.BAD);
    }

    private static void fault() {
        Check.promise("9 fault");
        faultIs("m1,1o1,1", StrikeDays.NONE);
        faultIs("  m1,1  o1,1  ", StrikeDays.NONE);
        faultIs("o1,0m9,99", StrikeDays.NONE);
        faultIs("m01,1o1,01", StrikeDays.NONE);
        faultIs("v1v1v1v1v1v1v1v1v1v1v1v1v1v1v1v1v1v1v1v1v1v1v1v1v1v1m1,1o1,1", StrikeDays.NONE);
        faultIs(" ".repeat(52) + "m1,1o1,1", StrikeDays.NONE);
        faultIs(" ".repeat(60), 60);
        faultIs("", 0);
        faultIs("   ", 3);
        faultIs("m", 1);
        faultIs("m1", 2);
        faultIs("m1,", 3);
        faultIs("m1,1", 4);
        faultIs("o1,1  ", 6);
        faultIs("m 1,1o1,1", 1);
        faultIs("m1 ,1o1,1", 2);
        faultIs("m1, 1o1,1", 3);
        faultIs("m,1", 1);
        faultIs("m1o1,1", 2);
        faultIs("m0,1o1,1", 2);
        faultIs("m00,1o1,1", 3);
        faultIs("o10,1m1,1", 3);
        faultIs("m123,1", 3);
        faultIs("m1,100o1,1", 5);
        faultIs("x", 0);
        faultIs("m1,1;o1,1", 4);
        faultIs("M1,1o1,1", 0);
        faultIs("m1,1m1,1m1,1m1,1", 12);
        faultIs("m1,1m1,1m1,1mx", 12);
        faultIs("o1,1o1,1o1,1 o1,1", 13);
        faultIs("m1,1m1,1m1,1o1,1o1,1o1,1", StrikeDays.NONE);
        faultIs("m1,1o1,1h0", 10);
        faultIs("m1,1o1,1h1l1", StrikeDays.NONE);
        faultIs("m1,1o1,1h1l2", 12);
        faultIs("m1,1o1,1h41", 11);
        faultIs("m1,1o1,1h40l10w12v99", StrikeDays.NONE);
        faultIs("m1,1o1,1h400", 11);
        faultIs("m1,1o1,1l0", 10);
        faultIs("m1,1o1,1l11", 11);
        faultIs("m1,1o1,1w13", 11);
        faultIs("m1,1o1,1w0v0", StrikeDays.NONE);
        faultIs("m1,1o1,1v", 9);
        faultIs("m1,1o1,1v-", 9);
        faultIs("m1,1o1,1v100", 11);
        faultIs("m1,1o1,1h4", 10);
        faultIs("m1,1o1,1h4 ", 11);
        faultIs("m1,1o1,1h5", StrikeDays.NONE);
        faultIs("m1,1o1,1l6h5", 12);
        faultIs("m1,1o1,1l6h5l5", StrikeDays.NONE);
        faultIs("h4m1,1o1,1h20", StrikeDays.NONE);
        faultIs("h0m1,1o1,1h20", 2);
        StrikeDays x = new StrikeDays();
        Check.finding(x, "fault(0)", 0, x.fault(0), 1);
        Check.due("fault(4)", x.fault(4), StrikeDays.BAD);
        Check.due("fault(-1)", x.fault(-1), StrikeDays.BAD);
        x.text(0, 1);
        x.put(0, 0, 109 + 256);
        Check.due("fault of a cut sign", x.fault(0), 1);
        x.put(0, 0, -1);
        Check.due("fault of a sign below 0", x.fault(0), 0);
    }

    private static void faultIs(String signs, int due) {
        StrikeDays x = new StrikeDays();
        Check.write(x, 2, signs);
        Check.due("fault of '" + signs + "'", x.fault(2), due);
        Check.due("fault leaves v", x.told(2) + x.asked(), 11);
        if (due != StrikeDays.NONE) {
            Check.due("quarrel of '" + signs + "'", x.quarrel(2), StrikeDays.STATE);
            Check.due("no FINDING by STATE", x.finding(), 0);
        }
    }

    private static void quarrel() {
        Check.promise("10 quarrel");
        StrikeDays x = new StrikeDays();
        x.notice(3);
        x.judge(4, 5);
        x.way(0, 1);
        x.set(0, 2, 10, 9);
        Check.write(x, 1, "m3,2 m2,8 m1,99 o1,4 o2,9 v12 v13 h30 h12 l9 l4 w1 w0");
        Check.due("quarrel(1)", x.quarrel(1), 5);
        toldAre(x, 3, 2, 13, 12, 4, 0, 3, 4, 5);
        Check.due("a WAY stays", x.at(0, 2, 10), 9);
        Check.write(x, 1, "o7,6m9,5");
        Check.due("quarrel(1) of defaults", x.quarrel(1), 2);
        toldAre(x, 1, 1, 10, 20, 5, 5, 3, 4, 5);
        Check.told(x, "CHANCE", x.sort(1, 0, 0), 7);
        Check.due("a SORT of before is gone", x.sort(0, 1, 0), StrikeDays.BAD);
        Check.write(x, 1, "m1,1o1,1v3h2l1w9x");
        Check.due("quarrel(1) with a FAULT", x.quarrel(1), StrikeDays.STATE);
        toldAre(x, 1, 1, 10, 20, 5, 5, 3, 4, 5);
        Check.finding(x, "quarrel(0)", 0, x.quarrel(0), 1);
        Check.due("quarrel(4)", x.quarrel(4), StrikeDays.BAD);
        Check.due("quarrel(-1)", x.quarrel(-1), StrikeDays.BAD);
    }

    private static void toldAre(StrikeDays x, int... told) {
        for (int what = 0; what < told.length; what++) {
            Check.told(x, "told(" + what + ")", x.told(what), told[what]);
        }
    }

    private static void told() {
        Check.promise("11 told");
        StrikeDays x = Check.quarrelOf("m1,1m2,2o3,3o4,4o5,5v6h7l3w8");
        x.notice(9);
        x.judge(10, 11);
        toldAre(x, 2, 3, 6, 7, 3, 8, 9, 10, 11);
        Check.due("told(-1)", x.told(-1), StrikeDays.BAD);
        Check.due("told(9)", x.told(9), StrikeDays.BAD);
        Check.due("asked() as before", x.asked(), 11);
    }

    private static void sort() {
        Check.promise("12 sort");
        StrikeDays x = Check.quarrelOf("m1,10 m2,20 o3,30");
        Check.told(x, "sort(0, 0, 0)", x.sort(0, 0, 0), 1);
        Check.told(x, "sort(0, 1, 0)", x.sort(0, 1, 0), 2);
        Check.told(x, "sort(0, 1, 1)", x.sort(0, 1, 1), 20);
        Check.told(x, "sort(1, 0, 0)", x.sort(1, 0, 0), 3);
        Check.told(x, "sort(1, 0, 1)", x.sort(1, 0, 1), 30);
        Check.due("sort(1, 1, 0)", x.sort(1, 1, 0), StrikeDays.BAD);
        Check.due("sort(0, 2, 0)", x.sort(0, 2, 0), StrikeDays.BAD);
        Check.due("sort(0, -1, 0)", x.sort(0, -1, 0), StrikeDays.BAD);
        Check.due("sort(2, 0, 0)", x.sort(2, 0, 0), StrikeDays.BAD);
        Check.due("sort(-1, 0, 0)", x.sort(-1, 0, 0), StrikeDays.BAD);
        Check.due("sort(0, 0, 2)", x.sort(0, 0, 2), StrikeDays.BAD);
        Check.due("sort(0, 0, -1)", x.sort(0, 0, -1), StrikeDays.BAD);
        Check.due("asked() as before", x.asked(), 30);
    }

    private static void notice() {
        Check.promise("13 notice");
        StrikeDays x = new StrikeDays();
        Check.due("notice(10)", x.notice(10), 1);
        Check.due("notice(0)", x.notice(0), StrikeDays.BAD);
        Check.due("notice(11)", x.notice(11), StrikeDays.BAD);
        Check.due("notice(1)", x.notice(1), 10);
        Check.due("notice(7)", x.notice(7), 1);
        Check.told(x, "told(6)", x.told(6), 7);
    }

    private static void judge() {
        Check.promise("14 judge");
        StrikeDays x = new StrikeDays();
        Check.due("judge(12, 0)", x.judge(12, 0), 1);
        Check.told(x, "told(7)", x.told(7), 12);
        Check.told(x, "told(8)", x.told(8), 0);
        Check.due("judge(0, 12)", x.judge(0, 12), 1);
        Check.due("judge(13, 1)", x.judge(13, 1), StrikeDays.BAD);
        Check.due("judge(-1, 1)", x.judge(-1, 1), StrikeDays.BAD);
        Check.due("judge(1, 13)", x.judge(1, 13), StrikeDays.BAD);
        Check.due("judge(1, -1)", x.judge(1, -1), StrikeDays.BAD);
        Check.told(x, "told(7)", x.told(7), 0);
        Check.told(x, "told(8)", x.told(8), 12);
    }
}

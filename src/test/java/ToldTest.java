/** Promises 40 to 46: what is told. */
public final class ToldTest {
    public static void main(String[] args) {
        asked();
        upperAndLower();
        count();
        finding();
        digest();
        Check.close();
    }

    private static void asked() {
        Check.promise("40 asked");
        StrikeDays x = new StrikeDays();
        Check.due("asked() at first", x.asked(), 0);
        x.told(3);
        Check.due("asked() by told()", x.asked(), 20);
        x.row(0, 2);
        x.mean(1);
        x.lay(0, 9, 1);
        x.sort(0, 5, 0);
        x.run(0, 1, 0, 0);
        x.gone(0, 0, 0);
        x.digest();
        x.count(0);
        Check.due("asked() behind what was refused", x.asked(), 20);
        x.lay(0, 0, 7);
        Check.due("asked() by lay()", x.asked(), 0);
        x.mean(0);
        Check.due("asked() by mean()", x.asked(), 3);
        x.sort(0, 0, 0);
        Check.due("asked() by sort()", x.asked(), 1);
        x.men(1, 4, 0, 0);
        x.gone(1, 0, 0);
        Check.due("asked() by gone()", x.asked(), 2);
        x.way(0, 1);
        x.way(1, 2);
        x.set(0, 0, 1, 8);
        x.run(0, 1, 0, 0);
        Check.due("asked() by run()", x.asked(), 8);
        x.morning(0, 1, 0, 0);
        x.worth(0, 1, 0, 0);
        x.law(0, 1);
        x.all(0, 0);
        x.turns(1);
        x.notice(2);
        Check.due("asked() behind calls that tell otherwise", x.asked(), 8);
    }

    private static void upperAndLower() {
        Check.promise("41, 42 upper, lower");
        StrikeDays x = new StrikeDays();
        Check.due("upper() at first", x.upper(), 0);
        Check.due("lower() at first", x.lower(), 1);
        x = RunsTest.small();
        x.longer(0, 1);
        x.longer(0, 9);
        x.worth(0, 7, 0, 0);
        x.rest(0, 1);
        x.run(0, 1, 0, 0);
        x.digest();
        Check.due("upper() behind what was refused", x.upper(), 4);
        Check.due("lower() behind what was refused", x.lower(), 3);
        x.end(0, 1, 2);
        Check.due("upper() of the latest", x.upper(), 2);
        Check.due("lower() of the latest", x.lower(), 3);
    }

    private static void count() {
        Check.promise("43 count");
        StrikeDays x = new StrikeDays();
        x.row(0, 0);
        x.row(5, 3);
        x.row(4, 3);
        x.text(3, 0);
        x.text(0, 9);
        x.tear(4);
        for (int kind = 0; kind <= 4; kind++) {
            x.way(kind + 2, kind);
        }
        x.men(0, 3, 1, 1);
        x.men(5, 99, 1, 1);
        int[] due = {2, 2, 5, 2, 102};
        for (int what = 0; what < due.length; what++) {
            Check.due("count(" + what + ")", x.count(what), due[what]);
        }
        x.way(4, 0);
        Check.due("count(3) with a TAKE less", x.count(3), 1);
        Check.due("count(-1)", x.count(-1), StrikeDays.BAD);
        Check.due("count(5)", x.count(5), StrikeDays.BAD);
    }

    private static void finding() {
        Check.promise("44, 45 finding, findings");
        StrikeDays x = new StrikeDays();
        Check.due("finding() at first", x.finding(), 0);
        for (int f = 1; f <= 5; f++) {
            Check.due("findings(" + f + ") at first", x.findings(f), 0);
        }
        x.tear(0);
        x.tear(0);
        Check.due("finding() of NOTHING", x.finding(), 1);
        x.row(0, 0);
        Check.due("finding() stays behind what is fine", x.finding(), 1);
        x.lay(0, 0, 0);
        Check.due("finding() of BEYOND", x.finding(), 2);
        x.tear(9);
        Check.due("finding() stays behind BAD", x.finding(), 2);
        x.way(0, 1);
        x.set(0, 0, 1, 13);
        Check.due("finding() of UNLIKE", x.finding(), 3);
        x.mean(0);
        Check.due("finding() of NOUGHT", x.finding(), 4);
        x.row(0, -1);
        Check.due("finding() of SIZE", x.finding(), 5);
        int[] due = {2, 1, 1, 1, 1};
        for (int f = 1; f <= 5; f++) {
            Check.due("findings(" + f + ")", x.findings(f), due[f - 1]);
        }
        Check.due("findings(0)", x.findings(0), StrikeDays.BAD);
        Check.due("findings(6)", x.findings(6), StrikeDays.BAD);
        x.text(0, 0);
        x.quarrel(0);
        Check.due("finding() stays behind STATE", x.finding(), 5);
    }

    private static long h;

    private static void mix(long... values) {
        for (long v : values) {
            h = 31 * h + v;
        }
    }

    private static void digest() {
        Check.promise("46 digest");
        h = 17;
        mix(0, 0, 0, 0, 0, 1, 1, 10, 20, 5, 5, 1, 0, 6, 1, 1, 1, 1, -1, -1, -1, -1, -1, -1, -1, -1);
        mix(new long[18]);
        mix(-1, -1, -1, -1, -1, -1, -1, -1, -1, -1);
        Check.due("digest() at first", new StrikeDays().digest(), h);

        StrikeDays x = Check.quarrelOf("m3,2m2,8o1,4");
        x.text(0, 2);
        x.put(0, 1, 200);
        x.text(3, 0);
        x.row(1, 2);
        x.lay(1, 1, -7);
        x.row(5, 0);
        x.notice(2);
        x.judge(3, 4);
        x.way(6, 3);
        x.set(6, 0, 2, 5);
        x.set(6, 2, 10, 9);
        x.men(1, 10, 20, 30);
        h = 17;
        mix(2, 2, 1, 1, 10, 2, 1, 10, 20, 5, 5, 2, 3, 4, 3, 2, 2, 8, 1, 4);
        mix(-1, -1, -1, -1, -1, -1, 3);
        long[] numbers = new long[30];
        numbers[1] = 5;
        numbers[29] = 9;
        mix(numbers);
        mix(-1, 0, 0, 0, 10, 20, 30);
        mix(new long[12]);
        mix(-1, 2, 0, -7, -1, -1, -1, 0);
        mix(2, 32, -56, -1, -1, 0);
        Check.due("digest()", x.digest(), h);
        x.tear(1);
        x.lay(1, 0, 0);
        long torn = x.digest();
        x.row(1, 3);
        x.tear(1);
        Check.due("digest() of what is missing is alike", x.digest(), torn);
        x.finding();
        x.worth(0, 0, 0, 0);
        Check.due("digest() has no FINDINGS", x.digest(), torn);
    }
}

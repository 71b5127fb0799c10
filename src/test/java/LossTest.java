/** Promises 29 to 32: what is lost, what was there on the first morning, and the law. */
public final class LossTest {
    public static void main(String[] args) {
        longer();
        lost();
        morning();
        law();
        Check.close();
    }

    private static void longer() {
        Check.promise("29 longer");
        StrikeDays x = RunsTest.small();
        Check.fraction(x, "longer(0, 1)", x.longer(0, 1), 4, 3);
        x.judge(12, 6);
        Check.fraction(x, "longer(0, 1) without the JUDGE", x.longer(0, 1), 4, 3);
        x.notice(4);
        Check.fraction(x, "longer(0, 1), never SETTLED", x.longer(0, 1), 3, 1);
        x.notice(1);
        Check.numbers(x, 1, 0, 0);
        Check.numbers(x, 1, 1, 0);
        Check.fraction(x, "longer(0, 1) of none", x.longer(0, 1), 0, 1);
        x.way(2, 3);
        Check.fraction(x, "longer(0, 2) of a VOTE", x.longer(0, 2), 0, 1);
        x = RunsTest.unevenChances();
        // None for 3 of 10, one for 3 of 10, three for 4 of 10.
        Check.fraction(x, "longer(0, 1) of uneven CHANCES", x.longer(0, 1), 3, 2);
    }

    private static void lost() {
        Check.promise("30 lost");
        StrikeDays x = RunsTest.small();
        // 2 days of 13 for one of three, a day of 15 for two.
        Check.fraction(x, "lost(0, 1)", x.lost(0, 1), 56, 3);
        x.judge(12, 6);
        Check.fraction(x, "lost(0, 1) without the JUDGE", x.lost(0, 1), 56, 3);
        x.notice(4);
        Check.fraction(x, "lost(0, 1), never SETTLED", x.lost(0, 1), 43, 1);
        x = RunsTest.unevenChances();
        // MEN 1: 14 by 1 of 10, 15 by 2 of 10; never: 3 times 14 and 3 times 16 by 2 of 10 each.
        Check.fraction(x, "lost(0, 1) of uneven CHANCES", x.lost(0, 1), 112, 5);
    }

    private static void morning() {
        Check.promise("31 morning");
        StrikeDays x = RunsTest.small();
        Check.due("morning(0, 1, 0, 1)", x.morning(0, 1, 0, 1), 1 << 5);
        Check.due("morning(0, 1, 0, 0)", x.morning(0, 1, 0, 0), 1 << 6 | 1 << 7 | 1 << 8);
        x.judge(12, 1);
        Check.due("morning without the JUDGE", x.morning(0, 1, 0, 1), 1 << 5);
        x.set(1, 1, 1, 2);
        Check.due("morning, SETTLED on it", x.morning(0, 1, 0, 1), 0);
        Check.due("morning of OWNERS 1", x.morning(0, 1, 1, 0), StrikeDays.BAD);
        Check.due("morning of OWNERS -1", x.morning(0, 1, -1, 0), StrikeDays.BAD);
        Check.due("morning of MEN 2", x.morning(0, 1, 0, 2), StrikeDays.BAD);
        Check.due("morning of MEN -1", x.morning(0, 1, 0, -1), StrikeDays.BAD);
        StrikeDays z = Check.quarrelOf("m1,0 o1,0 v0 h1 l1 w0");
        z.way(0, 1);
        z.way(1, 2);
        z.set(1, 0, 1, 13);
        Check.due("morning of nothing", z.morning(0, 1, 0, 0), 0);
        z = Check.quarrelOf("m1,0 o1,1 v0 h1 l1 w0");
        z.way(0, 1);
        z.way(1, 2);
        z.set(1, 0, 1, 13);
        // A day costs OWNERS 1: WAGE 0 is 1 more for them, WAGE 1 is 1 more for MEN.
        Check.due("morning of 1 in all", z.morning(0, 1, 0, 0), 3);
        StrikeDays y = Check.quarrelOf("m1,0 o1,0 v12 h2 l1 w12");
        y.way(0, 1);
        y.way(1, 2);
        y.set(1, 0, 1, 13);
        // MEN have 12 times 1 by the end, OWNERS 0: 6 is as much for MEN and more for OWNERS, 12 likewise.
        Check.due("morning ahead of the end", y.morning(0, 1, 0, 0), 0x1fc0);
    }

    private static void law() {
        Check.promise("32 law");
        StrikeDays x = RunsTest.small();
        x.notice(7);
        x.judge(5, 4);
        Check.due("law(0, 1)", x.law(0, 1), 13);
        Check.due("its mean", x.upper(), 15);
        Check.due("its mean's lower number", x.lower(), 16);
        Check.told(x, "NOTICE stays", x.told(6), 7);
        Check.told(x, "the JUDGE stays", x.told(7), 5);
        Check.told(x, "his WAGE stays", x.told(8), 4);
        Check.numbers(x, 1, 0, 2);
        Check.numbers(x, 1, 1, 2);
        Check.due("SETTLED at once: the first law", x.law(0, 1), 10);
        Check.due("upper()", x.upper(), 0);
        Check.due("lower()", x.lower(), 1);
        Check.numbers(x, 1, 0, 13, 13, 13);
        Check.numbers(x, 1, 1, 13, 13, 13);
        Check.due("never SETTLED but by the JUDGE", x.law(0, 1), 13);
        // 0 by 1/4, 1 by 3/16, 2 by 9/64, 3 by 27/64.
        Check.due("upper()", x.upper(), 111);
        Check.due("lower()", x.lower(), 64);
    }
}

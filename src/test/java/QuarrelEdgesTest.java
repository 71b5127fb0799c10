/** Sentences about what a QUARREL is, and where its FAULT, each with its own test. */
public final class QuarrelEdgesTest {
    private static final int NONE = StrikeDays.NONE;

    public static void main(String[] args) {
        blanks();
        letters();
        commas();
        figures();
        atMostThreeSorts();
        chances();
        costs();
        plainNumbers();
        lastAndHorizon();
        theLastOfAlikeOnesCounts();
        whatIsNotTold();
        theFirstPlace();
        theEndComesTooEarly();
        aSideHasNoSort();
        sixtySigns();
        whatStays();
        aFaultChangesNothing();
        atFirst();
        Check.close();
    }

    /** FAULT and quarrel() agree: STATE if there is one, else how many SORTS. */
    private static StrikeDays read(String signs, int fault) {
        StrikeDays x = new StrikeDays();
        Check.write(x, 3, signs);
        long before = x.digest();
        String said = "'" + signs + "'";
        Check.due("fault of " + said, x.fault(3), fault);
        Check.due("fault of " + said + " changes nothing", x.digest() == before ? 1 : 0, 1);
        int answer = x.quarrel(3);
        if (fault == NONE) {
            Check.due("quarrel of " + said + ": " + answer, answer >= 2 && answer <= 6 ? 1 : 0, 1);
        } else {
            Check.due("quarrel of " + said, answer, StrikeDays.STATE);
            Check.due("quarrel of " + said + " changes nothing", x.digest() == before ? 1 : 0, 1);
        }
        Check.due("no FINDING by " + said, x.finding(), 0);
        return x;
    }

    private static void toldIs(StrikeDays x, int what, int due) {
        Check.told(x, "told(" + what + ")", x.told(what), due);
    }

    private static void blanks() {
        Check.promise("blanks (32) ahead, between, behind as many as wanted");
        read("m1,1o1,1", NONE);
        read(" m1,1o1,1", NONE);
        read("m1,1 o1,1", NONE);
        read("m1,1o1,1 ", NONE);
        String many = " ".repeat(52);
        read(many + "m1,1o1,1", NONE);
        read("m1,1" + many + "o1,1", NONE);
        read("m1,1o1,1" + many, NONE);
        read("m 1,1o1,1", 1);
        read("m1 ,1o1,1", 2);
        read("m1, 1o1,1", 3);
        read("m1,1o1,1v 1", 9);
        int[] notBlank = {0, 9, 10, 13, 31, 33, 160, 223, 255};
        for (int sign : notBlank) {
            read((char) sign + "m1,1o1,1", 0);
            read("m1,1" + (char) sign + "o1,1", 4);
            read("m1,1o1,1" + (char) sign, 8);
        }
    }

    /** Each of all 256 bytes where an item may begin. */
    private static void letters() {
        Check.promise("items: m (109), o (111), v (118), h (104), l (108), w (119)");
        for (int sign = 0; sign < 256; sign++) {
            int sortDue = sign == 'm' || sign == 'o' ? NONE : 0;
            int plainDue = sign == 'v' || sign == 'h' || sign == 'l' || sign == 'w' ? NONE : 0;
            String begun = String.valueOf((char) sign);
            if (sign == ' ') {
                read(begun + "1,1m1,1o1,1", 1);
                read(begun + "9 m1,1o1,1", 1);
            } else {
                read(begun + "1,1m1,1o1,1", plainDue == NONE ? 2 : sortDue);
                read(begun + "9 m1,1o1,1", sortDue == NONE ? 2 : plainDue);
            }
        }
    }

    private static void commas() {
        Check.promise("c , (44) a");
        for (int sign = 0; sign < 256; sign++) {
            // A second figure makes the CHANCE 10 or more: the place behind it.
            int due = sign == ',' ? NONE : isFigure(sign) ? 3 : 2;
            read("m1" + (char) sign + "1o1,1", due);
            read("o1" + (char) sign + "1m1,1", due);
        }
    }

    private static boolean isFigure(int sign) {
        return sign >= 48 && sign <= 57;
    }

    private static void figures() {
        Check.promise("Numbers are of one or two figures.");
        for (int sign = 0; sign < 256; sign++) {
            char at = (char) sign;
            read("m" + at + ",1o1,1", sign == '0' ? 2 : isFigure(sign) ? NONE : 1);
            read("m1," + at + "o1,1", isFigure(sign) ? NONE : 3);
            read("m1,1o1,1v" + at, isFigure(sign) ? NONE : 9);
            read("m1,1o1,1v9" + at, isFigure(sign) || sign == ' ' ? NONE : "movhlw".indexOf(at) >= 0 ? 11 : 10);
        }
        read("m01,01o09,00", NONE);
        toldIs(read("m1,1o1,1v07h09l08w06", NONE), 2, 7);
        read("m1,001o1,1", 5);
        read("m1,1o1,1v001", 11);
        read("m1,1o1,1h001", 11);
        read("m001,1o1,1", 3);
        read("m1,1o1,1w012", 11);
    }

    private static void atMostThreeSorts() {
        Check.promise("a fourth SORT: its letter");
        String men = "m1,1m2,2m3,3";
        String owners = "o4,4o5,5o6,6";
        read(men + "o1,1", NONE);
        read(owners + "m1,1", NONE);
        StrikeDays x = read(men + owners, NONE);
        toldIs(x, 0, 3);
        toldIs(x, 1, 3);
        for (int s = 0; s < 3; s++) {
            Check.told(x, "CHANCE of MEN", x.sort(0, s, 0), s + 1);
            Check.told(x, "cost of MEN", x.sort(0, s, 1), s + 1);
            Check.told(x, "CHANCE of OWNERS", x.sort(1, s, 0), s + 4);
            Check.told(x, "cost of OWNERS", x.sort(1, s, 1), s + 4);
        }
        read(men + "m1,1o1,1", 12);
        read(owners + "o1,1m1,1", 12);
        read(men + owners + "m1,1", 24);
        read(men + owners + "  o1,1", 26);
        read(men + "m", 12);
        read(men + "m0,1", 12);
        read(men + "mx", 12);
        Check.promise("how many SORTS.");
        for (int m = 1; m <= 3; m++) {
            for (int o = 1; o <= 3; o++) {
                StrikeDays y = new StrikeDays();
                Check.write(y, 0, men.substring(0, 4 * m) + owners.substring(0, 4 * o));
                Check.due("quarrel(0)", y.quarrel(0), m + o);
                toldIs(y, 0, m);
                toldIs(y, 1, o);
            }
        }
    }

    private static void chances() {
        Check.promise("a CHANCE 0, above 9: the place behind");
        for (int chance = 0; chance <= 99; chance++) {
            int digits = chance < 10 ? 1 : 2;
            int due = chance >= 1 && chance <= 9 ? NONE : 1 + digits;
            read("m" + chance + ",1o1,1", due);
            read("o" + chance + ",1m1,1", due);
        }
        read("m00,1o1,1", 3);
        read("m1,1o0", 6);
        read("m1,1o10", 7);
        read("m1,1o0x", 6);
        read("m1,1 o1,1 m0,1", 12);
    }

    private static void costs() {
        Check.promise("that a day costs a");
        for (int cost = 0; cost <= 99; cost++) {
            StrikeDays x = read("m1," + cost + "o1," + (99 - cost), NONE);
            Check.told(x, "cost of MEN", x.sort(0, 0, 1), cost);
            Check.told(x, "cost of OWNERS", x.sort(1, 0, 1), 99 - cost);
        }
        read("m1,100o1,1", 5);
        read("o1,100m1,1", 5);
    }

    private static void plainNumber(char letter, int what, int least, int greatest, String behind) {
        for (int n = 0; n <= 99; n++) {
            String item = String.valueOf(letter) + n;
            boolean fine = n >= least && n <= greatest;
            StrikeDays x = read("m1,1o1,1" + item + behind, fine ? NONE : 8 + item.length());
            if (fine) {
                toldIs(x, what, n);
            }
        }
    }

    private static void plainNumbers() {
        Check.promise("v n: what a day's work is worth");
        plainNumber('v', 2, 0, 99, "");
        Check.promise("h n: HORIZON (1 .. 40)");
        plainNumber('h', 3, 1, 40, "l1");
        Check.promise("l n: the LAST day (1 .. 10)");
        plainNumber('l', 4, 1, 10, "h40");
        Check.promise("w n: the WAGE (0 .. 12)");
        plainNumber('w', 5, 0, 12, "");
        read("m1,1o1,1h00", 11);
        read("m1,1o1,1l00", 11);
        read("m1,1o1,1w00", NONE);
        read("m1,1o1,1h400", 11);
    }

    private static void lastAndHorizon() {
        Check.promise("the TEXT's size, if the LAST day is beyond HORIZON");
        for (int last = 1; last <= 10; last++) {
            for (int horizon = 1; horizon <= 12; horizon++) {
                String signs = "m1,1o1,1l" + last + "h" + horizon;
                read(signs, last <= horizon ? NONE : signs.length());
                String turned = "h" + horizon + " l" + last + " m1,1 o1,1  ";
                read(turned, last <= horizon ? NONE : turned.length());
            }
        }
        read("m1,1o1,1h5", NONE);
        read("m1,1o1,1h4", 10);
        read("m1,1o1,1h4   ", 13);
        // What else is wrong with it comes first, since its place does.
        read("m1,1o1,1h4x", 10);
    }

    private static void theLastOfAlikeOnesCounts() {
        Check.promise("Of alike ones of v, h, l, w the last counts");
        StrikeDays x = read("v1v2v3h30h40h11l9l10l4w1w12w0m1,1o1,1", NONE);
        toldIs(x, 2, 3);
        toldIs(x, 3, 11);
        toldIs(x, 4, 4);
        toldIs(x, 5, 0);
        read("h1m1,1o1,1h5", NONE);
        read("l10h9l9m1,1o1,1", NONE);
        read("l9h9l10m1,1o1,1", 15);
        read("h0h20m1,1o1,1", 2);
        read("h41h20m1,1o1,1", 3);
        read("l0l5m1,1o1,1", 2);
        read("l11l5m1,1o1,1", 3);
        read("w13w5m1,1o1,1", 3);
    }

    private static void whatIsNotTold() {
        Check.promise("what is not told: v 10, h 20, l 5, w 5");
        StrikeDays x = read("o2,2m3,3", NONE);
        int[] due = {1, 1, 10, 20, 5, 5};
        for (int what = 0; what < due.length; what++) {
            toldIs(x, what, due[what]);
        }
        Check.write(x, 0, "m1,1o1,1v1h9l2w3");
        Check.due("quarrel(0)", x.quarrel(0), 2);
        Check.write(x, 0, "m1,1o1,1");
        Check.due("quarrel(0) again", x.quarrel(0), 2);
        for (int what = 0; what < due.length; what++) {
            toldIs(x, what, due[what]);
        }
    }

    private static void theFirstPlace() {
        Check.promise("A FAULT is the first place at which it can't go on so");
        read("xm1,1o1,1y", 0);
        read("m1,1xo1,1y", 4);
        read("m0,1o0,1", 2);
        read("h41l11w13", 3);
        read("m1,1m1,1m1,1m1,1x", 12);
        read("x", 0);
        read("  x", 2);
        read(",", 0);
        read("1", 0);
        read("m1,1,o1,1", 4);
        read("m1,,1o1,1", 3);
        read("mm1,1o1,1", 1);
        read("m-1,1o1,1", 1);
        read("M1,1o1,1", 0);
        read("m1,1O1,1", 4);
    }

    private static void theEndComesTooEarly() {
        Check.promise("the TEXT's size, if its end comes too early");
        String[] cut = {"m", "m1", "m1,", "o", "o1", "o1,", "v", "h", "l", "w"};
        for (String item : cut) {
            read(item, item.length());
            read("m1,1o1,1" + item, 8 + item.length());
            read("  m1,1  o1,1  " + item, 14 + item.length());
        }
    }

    private static void aSideHasNoSort() {
        Check.promise("the TEXT's size, if a side has no SORT");
        read("", 0);
        read(" ", 1);
        read(" ".repeat(60), 60);
        read("m1,1", 4);
        read("o1,1", 4);
        read("m1,1m1,1m1,1", 12);
        read("o1,1o1,1o1,1  ", 14);
        read("v1h9l2w3", 8);
    }

    private static void sixtySigns() {
        Check.promise("TEXTS: rows of 0 to 60 bytes");
        String full = "m1,1o1,1" + "v99 ".repeat(13);
        Check.due("signs", full.length(), 60);
        read(full, NONE);
        read(full.substring(0, 59) + "x", 59);
        read(full.substring(0, 59) + "v", 60);
        String items = "v1".repeat(26) + "m1,1o1,1";
        read(items, NONE);
        read(items.substring(0, 58) + ",x", 59);
        read(items.substring(0, 59) + " ", 59);
        read("w12".repeat(20), 60);
        read("m1,1" + " ".repeat(52) + "o1,1", NONE);
    }

    private static void whatStays() {
        Check.promise("The QUARREL of a TEXT (NOTICE, the JUDGE, WAYS stay)");
        StrikeDays x = new StrikeDays();
        x.notice(10);
        x.judge(12, 11);
        for (int w = 0; w < 8; w++) {
            x.way(w, w % 5);
            x.set(w, 2, 10, 9);
        }
        x.men(5, 99, 98, 97);
        x.row(5, 1);
        x.lay(5, 0, 7);
        Check.write(x, 0, "m1,1o1,1l1h1");
        Check.due("quarrel(0)", x.quarrel(0), 2);
        toldIs(x, 4, 1);
        toldIs(x, 6, 10);
        toldIs(x, 7, 12);
        toldIs(x, 8, 11);
        for (int w = 0; w < 8; w++) {
            Check.due("KIND of a WAY", x.kind(w), w % 5);
            Check.due("its last number", x.at(w, 2, 10), 9);
        }
        Check.due("MEN", x.count(4), 99);
        Check.told(x, "a ROW", x.lay(5, 0, 7), 7);
        Check.due("the TEXT itself", x.put(0, 0, 'm'), 1109);
        Check.due("NOTICE was 10", x.notice(1), 10);
    }

    private static void aFaultChangesNothing() {
        Check.promise("STATE: a FAULT. (STATE behind NOTHING.)");
        StrikeDays x = Check.quarrelOf("m3,2m2,8o1,4v12h12l4w4");
        Check.write(x, 1, "m9,9m8,8m7,7o6,6o5,5v1h9l3w2 ?");
        long before = x.digest();
        Check.due("quarrel(1)", x.quarrel(1), StrikeDays.STATE);
        Check.due("all as before", x.digest() == before ? 1 : 0, 1);
        Check.due("no FINDING", x.finding(), 0);
        Check.due("fault(1)", x.fault(1), 29);
        x.put(1, 29, ' ');
        Check.due("without the FAULT", x.quarrel(1), 5);
        Check.told(x, "CHANCE", x.sort(0, 2, 0), 7);
        Check.finding(x, "a missing TEXT", 0, x.quarrel(2), 1);
        Check.told(x, "CHANCE as before", x.sort(0, 2, 0), 7);
    }

    private static void atFirst() {
        Check.promise("At first: one SORT each, CHANCE 1, cost 1, the rest as not told.");
        StrikeDays first = new StrikeDays();
        StrikeDays x = Check.quarrelOf("m1,1o1,1v10h20l5w5");
        first.text(0, 18);
        x.text(0, 18);
        Check.due("alike", first.digest() == x.digest() ? 1 : 0, 1);
    }
}

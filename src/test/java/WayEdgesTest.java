/** Sentences about WAYS and their numbers that name an edge, each with its own test. */
public final class WayEdgesTest {
    private static final int[] GREATEST = {99, 12, 13, 13, 99};

    public static void main(String[] args) {
        missingAtFirst();
        aNumberForEachSortAndDay();
        asMadeAllNumbersAreNought();
        numbersByKind();
        setAllCutsToBytes();
        setAllOfTen();
        setAllOrNone();
        greatestOfAnOffer();
        leastOfATake();
        sumOfABack();
        sortsThatCarryAVote();
        kindsThatAre();
        Check.close();
    }

    private static void missingAtFirst() {
        Check.promise("WAYS 0 .. 7 (missing at first)");
        StrikeDays x = new StrikeDays();
        for (int w = 0; w < 8; w++) {
            Check.finding(x, "kind(" + w + ")", x.findings(1), x.kind(w), 1);
            Check.due("count(2)", x.count(2), w);
            Check.due("way(" + w + ", 0)", x.way(w, 0), 1);
            Check.due("kind(" + w + ")", x.kind(w), 0);
        }
        Check.due("count(2)", x.count(2), 8);
        Check.due("way(7, 3) anew", x.way(7, 3), 1);
        Check.due("count(2) as before", x.count(2), 8);
    }

    private static void aNumberForEachSortAndDay() {
        Check.promise("WAYS have of SORTS 0 .. 2 and days 1 .. 10 a number.");
        StrikeDays x = new StrikeDays();
        for (int w = 0; w < 8; w += 7) {
            x.way(w, 0);
            for (int place = 0; place < 30; place++) {
                Check.due("set", x.set(w, place / 10, place % 10 + 1, 3 * w + place + 1), 0);
            }
        }
        for (int w = 0; w < 8; w += 7) {
            for (int place = 0; place < 30; place++) {
                Check.due("at", x.at(w, place / 10, place % 10 + 1), 3 * w + place + 1);
            }
        }
    }

    private static void asMadeAllNumbersAreNought() {
        Check.promise("As made all numbers are 0.");
        StrikeDays x = new StrikeDays();
        for (int kind = 0; kind <= 4; kind++) {
            x.way(2, kind);
            for (int place = 0; place < 30; place++) {
                Check.due("what it was", x.set(2, place / 10, place % 10 + 1, 9), 0);
            }
        }
        Check.due("a KIND that is none leaves them", x.way(2, 5), StrikeDays.BAD);
        Check.due("at(2, 2, 10)", x.at(2, 2, 10), 9);
        Check.due("kind(2)", x.kind(2), 4);
    }

    private static void numbersByKind() {
        Check.promise("OFFER 0 .. 12, TAKE, VOTE 0 .. 13, others 0 .. 99");
        for (int kind = 0; kind <= 4; kind++) {
            StrikeDays x = new StrikeDays();
            x.way(1, kind);
            int before = 0;
            int unlike = 0;
            for (int v = -2; v <= 101; v++) {
                if (v >= 0 && v <= GREATEST[kind]) {
                    Check.due("set " + v + " of KIND " + kind, x.set(1, 0, 1, v), before);
                    before = v;
                } else {
                    Check.finding(x, "set " + v + " of KIND " + kind, unlike++, x.set(1, 0, 1, v), 3);
                    Check.due("it stays", x.at(1, 0, 1), before);
                }
            }
        }
    }

    private static StrikeDays withRowOf(int size, int kind) {
        StrikeDays x = new StrikeDays();
        x.row(0, size);
        x.way(0, kind);
        return x;
    }

    private static void setAllCutsToBytes() {
        Check.promise("Numbers of a SORT of a WAY by a ROW of bytes, cut");
        int[] wraps = {0, 256, -256, 65536, Integer.MIN_VALUE};
        int[] bytes = {-128, -127, -100, -1, 0, 1, 11, 12, 13, 14, 15, 50, 98, 99, 100, 101, 126, 127};
        for (int kind = 0; kind <= 4; kind++) {
            for (int wrap : wraps) {
                StrikeDays x = withRowOf(10, kind);
                int before = 0;
                for (int b : bytes) {
                    x.lay(0, 4, b + wrap);
                    boolean fine = b >= 0 && b <= GREATEST[kind];
                    before = fine ? b : before;
                    Check.due("setAll with " + (b + wrap) + " of KIND " + kind, x.setAll(0, 1, 0), fine ? 1 : -3);
                    Check.due("at(0, 1, 5)", x.at(0, 1, 5), before);
                }
            }
        }
        StrikeDays x = withRowOf(10, 0);
        x.lay(0, 0, Integer.MAX_VALUE);
        Check.finding(x, "MAX is -1 as a byte", 0, x.setAll(0, 0, 0), 3);
        Check.told(x, "the ROW itself stays", x.lay(0, 0, 0), Integer.MAX_VALUE);
    }

    private static void setAllOfTen() {
        Check.promise("SIZE: not ten");
        for (int size = 0; size <= 40; size++) {
            StrikeDays x = withRowOf(size, 1);
            if (size == 10) {
                Check.due("setAll of ten", x.setAll(0, 0, 0), 1);
                continue;
            }
            Check.finding(x, "setAll of " + size, 0, x.setAll(0, 0, 0), 5);
            if (size > 0) {
                x.lay(0, size - 1, 100);
                Check.finding(x, "SIZE comes ahead of UNLIKE", 1, x.setAll(0, 0, 0), 5);
            }
        }
    }

    private static void setAllOrNone() {
        Check.promise("UNLIKE: one (as a byte) out of its KIND.");
        for (int day = 1; day <= 10; day++) {
            StrikeDays x = withRowOf(10, 1);
            for (int i = 0; i < 10; i++) {
                x.lay(0, i, i + 1);
            }
            x.lay(0, day - 1, 13);
            long before = x.digest();
            Check.finding(x, "13 on day " + day, 0, x.setAll(0, 1, 0), 3);
            Check.due("none changed", x.digest() == before ? 1 : 0, 1);
            x.lay(0, day - 1, 12);
            Check.due("12 on day " + day, x.setAll(0, 1, 0), 1);
            for (int d = 1; d <= 10; d++) {
                Check.due("day by day", x.at(0, 1, d), d == day ? 12 : d);
                Check.due("SORT 0 as before", x.at(0, 0, d), 0);
                Check.due("SORT 2 as before", x.at(0, 2, d), 0);
            }
        }
    }

    private static StrikeDays filled(int kind, int number) {
        StrikeDays x = new StrikeDays();
        x.way(0, kind);
        for (int place = 0; place < 30; place++) {
            x.set(0, place / 10, place % 10 + 1, number);
        }
        return x;
    }

    private static void greatestOfAnOffer() {
        Check.promise("an OFFER its greatest number");
        for (int place = 0; place < 30; place++) {
            StrikeDays x = filled(1, 3);
            x.set(0, place / 10, place % 10 + 1, 12);
            Check.due("12 among threes", x.mark(0, 1), 12);
            x.set(0, place / 10, place % 10 + 1, 2);
            Check.due("2 among threes", x.mark(0, 1), 3);
        }
        Check.due("as made", filled(1, 0).mark(0, 1), 0);
    }

    private static void leastOfATake() {
        Check.promise("a TAKE (VOTE, too) its least");
        for (int kind = 2; kind <= 3; kind++) {
            for (int place = 0; place < 30; place++) {
                StrikeDays x = filled(kind, 13);
                Check.due("thirteens", x.mark(0, 2), 13);
                x.set(0, place / 10, place % 10 + 1, 0);
                Check.due("0 among thirteens", x.mark(0, 2), 0);
                x.set(0, place / 10, place % 10 + 1, 12);
                Check.due("12 among thirteens", x.mark(0, 2), 12);
            }
        }
    }

    private static void sumOfABack() {
        Check.promise("a BACK one the sum of its numbers");
        StrikeDays x = filled(4, 99);
        Check.due("all 99", x.mark(0, 4), 2970);
        Check.due("none", filled(4, 0).mark(0, 4), 0);
        for (int place = 0; place < 30; place++) {
            x = filled(4, 1);
            x.set(0, place / 10, place % 10 + 1, 99);
            Check.due("one of 99", x.mark(0, 4), 128);
        }
    }

    private static void carriedBy(String men, int due) {
        StrikeDays x = Check.quarrelOf(men + "o1,1");
        x.way(0, 3);
        Check.due("carried by " + men, x.mark(0, 3), due);
    }

    private static void sortsThatCarryAVote() {
        Check.promise("a VOTE how many SORTS are needed at least to carry it (by CHANCES as they are)");
        carriedBy("m1,1", 1);
        carriedBy("m9,1", 1);
        carriedBy("m1,1m1,1", 2);
        carriedBy("m9,1m9,1", 2);
        carriedBy("m1,1m2,1", 1);
        carriedBy("m9,1m8,1", 1);
        carriedBy("m1,1m1,1m1,1", 2);
        // Half is not more than half: 2 of 4, 8 of 16.
        carriedBy("m2,1m1,1m1,1", 2);
        carriedBy("m3,1m1,1m1,1", 1);
        carriedBy("m4,1m8,1m4,1", 2);
        carriedBy("m3,1m4,1m8,1", 1);
        carriedBy("m4,1m4,1m9,1", 1);
        carriedBy("m9,1m9,1m9,1", 2);
        StrikeDays x = Check.quarrelOf("m1,1m1,1o1,1");
        x.way(0, 3);
        Check.due("two of two", x.mark(0, 3), 2);
        Check.write(x, 0, "m1,1o1,1");
        x.quarrel(0);
        Check.due("by CHANCES as they are", x.mark(0, 3), 1);
    }

    private static void kindsThatAre() {
        Check.promise("What a WAY that IS of a KIND tells: BAD: also KIND 0; UNLIKE.");
        for (int own = 0; own <= 4; own++) {
            StrikeDays x = filled(own, 0);
            Check.due("kind(0)", x.kind(0), own);
            Check.due("mark by KIND 0", x.mark(0, 0), StrikeDays.BAD);
            Check.due("mark by KIND 5", x.mark(0, 5), StrikeDays.BAD);
            Check.due("no FINDING", x.finding(), 0);
            for (int kind = 1; kind <= 4; kind++) {
                String said = "mark of KIND " + own + " by KIND " + kind;
                if (kind == own || kind == 2 && own == 3) {
                    Check.due(said, x.mark(0, kind), kind == 3 ? 1 : 0);
                } else {
                    Check.finding(x, said, x.findings(3), x.mark(0, kind), 3);
                }
            }
            Check.due("TAKES", x.count(3), own == 2 || own == 3 ? 1 : 0);
        }
    }
}

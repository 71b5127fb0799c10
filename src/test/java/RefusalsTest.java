import java.util.ArrayList;
import java.util.Arrays;
import java.util.List;

/**
 * Every call with every mixture of right and wrong arguments: the last number that is still allowed, the first that is
 * not, the ends of an int. "Refused is, the first of these that fits, in this order"; "What is refused changes nothing
 * but finding(), findings()."
 */
public final class RefusalsTest {
    private static final int FINE = 0, BAD = StrikeDays.BAD, STATE = StrikeDays.STATE;
    private static final int NOTHING = 1, BEYOND = 2, UNLIKE = 3, NOUGHT = 4, SIZE = 5;
    private static final int MIN = Integer.MIN_VALUE, MAX = Integer.MAX_VALUE;
    private static final String QUARREL = "m1,1m2,2o3,3o4,4h12l4w4";
    /** An object is used for at most 512 calls: it takes some 60 to stand ready, and 21 for each trial. */
    private static final int TRIALS = 20;

    private interface Call {
        int on(StrikeDays x, int[] a);
    }

    /** Numbers for one argument, each with what it is refused by (FINE: it is not). */
    private static final class Argument {
        private final List<int[]> numbers = new ArrayList<>();

        Argument refused(int by, int... each) {
            for (int number : each) {
                numbers.add(new int[] {number, by});
            }
            return this;
        }
    }

    private static StrikeDays x;
    private static int trials;

    public static void main(String[] args) {
        x = ready();
        rows();
        texts();
        quarrels();
        ways();
        marks();
        pairs();
        bests();
        men();
        told();
        Check.close();
    }

    /** ROWS of 10, 9, 0, 10 (one of them 100), 11; WAYS of each KIND by its number; the rest is missing. */
    private static StrikeDays ready() {
        StrikeDays y = Check.quarrelOf(QUARREL);
        y.text(1, 1);
        y.put(1, 0, 'x');
        y.text(2, 0);
        int[] sizes = {10, 9, 0, 10, 11};
        for (int r = 0; r < sizes.length; r++) {
            y.row(r, sizes[r]);
        }
        for (int i = 0; i < 10; i++) {
            y.lay(0, i, i);
        }
        y.lay(3, 9, 100);
        for (int kind = 0; kind <= 4; kind++) {
            y.way(kind, kind);
            y.set(kind, 2, 10, 7);
        }
        y.notice(2);
        y.judge(5, 4);
        y.men(3, 40, 9, 70);
        y.told(3);
        y.think(1, 2, 0, 0, 0, 0);
        y.tear(5);
        trials = 0;
        return y;
    }

    private static Argument fine(int... each) {
        return new Argument().refused(FINE, each);
    }

    /** Allowed from the one to the other, and nothing else. */
    private static Argument within(int least, int greatest) {
        return fine(least, greatest).refused(BAD, least - 1, greatest + 1, MIN, MAX);
    }

    /** Order tells which refusal comes first; each mixture of the arguments' numbers is tried. */
    private static void tried(String name, Call call, int[] order, Argument... arguments) {
        Check.promise(name + " refused");
        int[] chosen = new int[arguments.length];
        int[] a = new int[arguments.length];
        int at = 0;
        while (at < chosen.length) {
            trial(name, call, order, arguments, chosen, a);
            for (at = 0; at < chosen.length && ++chosen[at] == arguments[at].numbers.size(); at++) {
                chosen[at] = 0;
            }
        }
    }

    private static void trial(String name, Call call, int[] order, Argument[] arguments, int[] chosen, int[] a) {
        int first = order.length;
        for (int i = 0; i < a.length; i++) {
            int[] number = arguments[i].numbers.get(chosen[i]);
            a[i] = number[0];
            for (int k = 0; k < first && number[1] != FINE; k++) {
                if (order[k] == number[1]) {
                    first = k;
                }
            }
        }
        outcome(name + Arrays.toString(a), call, a, first == order.length ? FINE : order[first]);
    }

    private static void outcome(String said, Call call, int[] a, int due) {
        if (trials++ == TRIALS) {
            x = ready();
        }
        long[] seen = Check.seen(x);
        long[] findings = Check.findings(x);
        int got = call.on(x, a);
        if (due == FINE) {
            Check.due(said + " is not refused: " + got, got >= 0 || got == StrikeDays.NONE ? 1 : 0, 1);
            Check.same(said + " finds nothing", Check.findings(x), findings);
            x = ready();
            return;
        }
        if (due > 0) {
            findings[0] = due;
            findings[due]++;
        }
        Check.due(said, got, due > 0 ? StrikeDays.FINDING : due);
        Check.same(said + " changes nothing", Check.seen(x), seen);
        Check.same(said + " is found", Check.findings(x), findings);
    }

    private static int[] order(int... refusals) {
        return refusals;
    }

    private static Argument aRow() {
        return fine(0, 3).refused(NOTHING, 5).refused(BAD, -1, 6, MIN, MAX);
    }

    private static Argument aPlaceOf(int size) {
        return fine(0, size - 1).refused(BEYOND, -1, size, MIN, MAX);
    }

    private static void rows() {
        tried("row", (y, a) -> y.row(a[0], a[1]), order(BAD, SIZE),
            within(0, 5), fine(0, 40).refused(BAD, 41, MAX).refused(SIZE, -1, MIN));
        tried("lay", (y, a) -> y.lay(a[0], a[1], a[2]), order(BAD, NOTHING, BEYOND),
            aRow(), aPlaceOf(10), fine(MIN, 0, MAX));
        tried("lay in an empty ROW", (y, a) -> y.lay(a[0], a[1], a[2]), order(BEYOND),
            fine(2), new Argument().refused(BEYOND, -1, 0, 1, MIN, MAX), fine(1));
        tried("tear", (y, a) -> y.tear(a[0]), order(BAD, NOTHING), aRow());
        tried("copy", (y, a) -> y.copy(a[0], a[1], a[2], a[3], a[4]), order(BAD, SIZE, NOTHING, BEYOND),
            aRow(), fine(0, 5).refused(BEYOND, -1, 11, MIN, MAX),
            aRow(), fine(0, 5).refused(BEYOND, -1, 11, MIN, MAX),
            fine(0, 5).refused(SIZE, -1, MIN).refused(BEYOND, 11, 41, MAX));
        tried("mean", (y, a) -> y.mean(a[0]), order(BAD, NOTHING, NOUGHT), aRow().refused(NOUGHT, 2));
    }

    private static void texts() {
        tried("text", (y, a) -> y.text(a[0], a[1]), order(BAD, SIZE),
            within(0, 3), fine(0, 60).refused(BAD, 61, MAX).refused(SIZE, -1, MIN));
        tried("put", (y, a) -> y.put(a[0], a[1], a[2]), order(BAD, NOTHING, BEYOND),
            fine(0).refused(NOTHING, 3).refused(BAD, -1, 4, MIN, MAX), aPlaceOf(QUARREL.length()), fine(MIN, 0, MAX));
        tried("put in an empty TEXT", (y, a) -> y.put(a[0], a[1], a[2]), order(BEYOND),
            fine(2), new Argument().refused(BEYOND, -1, 0, 1, MIN, MAX), fine(1));
        tried("fault", (y, a) -> y.fault(a[0]), order(BAD, NOTHING),
            fine(0, 1, 2).refused(NOTHING, 3).refused(BAD, -1, 4, MIN, MAX));
        tried("quarrel", (y, a) -> y.quarrel(a[0]), order(BAD, NOTHING, STATE),
            fine(0).refused(STATE, 1, 2).refused(NOTHING, 3).refused(BAD, -1, 4, MIN, MAX));
    }

    private static void quarrels() {
        tried("told", (y, a) -> y.told(a[0]), order(BAD), within(0, 8));
        tried("sort", (y, a) -> y.sort(a[0], a[1], a[2]), order(BAD), within(0, 1), within(0, 1), within(0, 1));
        tried("notice", (y, a) -> y.notice(a[0]), order(BAD), within(1, 10));
        tried("judge", (y, a) -> y.judge(a[0], a[1]), order(BAD), within(0, 12), within(0, 12));
    }

    private static Argument aWayOf(int... kinds) {
        Argument argument = new Argument().refused(NOTHING, 5, 7).refused(BAD, -1, 8, MIN, MAX);
        for (int kind = 0; kind <= 4; kind++) {
            int asked = kind;
            argument.refused(Arrays.stream(kinds).anyMatch(k -> k == asked) ? FINE : UNLIKE, kind);
        }
        return argument;
    }

    private static void ways() {
        tried("way", (y, a) -> y.way(a[0], a[1]), order(BAD), within(0, 7), within(0, 4));
        int[] greatest = {99, 12, 13, 13, 99};
        for (int kind = 0; kind <= 4; kind++) {
            int top = greatest[kind];
            tried("set of KIND " + kind, (y, a) -> y.set(a[0], a[1], a[2], a[3]), order(BAD, NOTHING, UNLIKE),
                fine(kind).refused(NOTHING, 5, 7).refused(BAD, -1, 8, MIN, MAX), within(0, 2), within(1, 10),
                fine(0, top).refused(UNLIKE, -1, top + 1, MIN, MAX));
        }
        tried("setAll", (y, a) -> y.setAll(a[0], a[1], a[2]), order(BAD, NOTHING, SIZE, UNLIKE),
            aWayOf(0, 1, 2, 3, 4), within(0, 2),
            fine(0).refused(NOTHING, 5).refused(SIZE, 1, 2, 4).refused(UNLIKE, 3).refused(BAD, -1, 6, MIN, MAX));
        tried("at", (y, a) -> y.at(a[0], a[1], a[2]), order(BAD, NOTHING),
            aWayOf(0, 1, 2, 3, 4), within(0, 2), within(1, 10));
        tried("kind", (y, a) -> y.kind(a[0]), order(BAD, NOTHING), aWayOf(0, 1, 2, 3, 4));
    }

    private static void marks() {
        int[][] kindsThatAre = {{}, {1}, {2, 3}, {3}, {4}};
        for (int kind = 1; kind <= 4; kind++) {
            tried("mark", (y, a) -> y.mark(a[0], a[1]), order(BAD, NOTHING, UNLIKE),
                aWayOf(kindsThatAre[kind]), fine(kind).refused(BAD, 0, -1, 5, MIN, MAX));
        }
    }

    private static void pairs() {
        int[] usual = order(BAD, NOTHING, UNLIKE);
        tried("run", (y, a) -> y.run(a[0], a[1], a[2], a[3]), usual,
            aWayOf(1), aWayOf(2, 3), within(0, 1), within(0, 1));
        tried("worth", (y, a) -> y.worth(a[0], a[1], a[2], a[3]), usual,
            aWayOf(1), aWayOf(2, 3), within(0, 1), within(0, 1));
        // All take on day 2, the NOTICE: behind it none is left.
        tried("think", (y, a) -> y.think(a[0], a[1], a[2], a[3], a[4], a[5]), order(BAD, NOTHING, UNLIKE, NOUGHT),
            aWayOf(1), aWayOf(2, 3), within(0, 1), fine(0, 1).refused(NOUGHT, 2, 4).refused(BAD, -1, 5, MIN, MAX),
            within(0, 1), within(0, 1));
        tried("end", (y, a) -> y.end(a[0], a[1], a[2]), usual, aWayOf(1), aWayOf(2, 3), within(1, 5));
        tried("rest", (y, a) -> y.rest(a[0], a[1]), usual, aWayOf(1), aWayOf(2));
        tried("answer", (y, a) -> y.answer(a[0], a[1]), usual, aWayOf(1), aWayOf(2));
        tried("reply", (y, a) -> y.reply(a[0], a[1]), usual, aWayOf(2), aWayOf(1));
        tried("longer", (y, a) -> y.longer(a[0], a[1]), usual, aWayOf(1), aWayOf(2, 3));
        tried("lost", (y, a) -> y.lost(a[0], a[1]), usual, aWayOf(1), aWayOf(2, 3));
        tried("morning", (y, a) -> y.morning(a[0], a[1], a[2], a[3]), usual,
            aWayOf(1), aWayOf(2, 3), within(0, 1), within(0, 1));
        tried("law", (y, a) -> y.law(a[0], a[1]), usual, aWayOf(1), aWayOf(2, 3));
    }

    private static void bests() {
        for (int side = 0; side <= 1; side++) {
            tried("best", (y, a) -> y.best(a[0], a[1], a[2]), order(BAD, NOTHING, UNLIKE),
                aWayOf(1 + side), fine(side).refused(BAD, -1, 2, MIN, MAX), within(0, 1));
        }
    }

    private static void men() {
        tried("men", (y, a) -> y.men(a[0], a[1], a[2], a[3]), order(BAD),
            within(0, 5), within(0, 99), within(0, 99), within(0, 100));
        tried("leftBy", (y, a) -> y.leftBy(a[0], a[1], a[2], a[3]), order(BAD, NOTHING, UNLIKE),
            within(0, 5), aWayOf(4), within(0, 2), within(1, 10));
        tried("gone", (y, a) -> y.gone(a[0], a[1], a[2]), order(BAD), within(1, 99), within(0, 9999), within(0, 999));
        tried("all", (y, a) -> y.all(a[0], a[1]), order(BAD), within(0, 9999), within(0, 999));
        tried("turns", (y, a) -> y.turns(a[0]), order(BAD), within(1, 99));
        tried("fund", (y, a) -> y.fund(a[0], a[1]), order(BAD), within(0, 9999), within(0, 999));
        tried("pact", (y, a) -> y.pact(a[0], a[1], a[2]), order(BAD), within(1, 9), within(0, 99), within(0, 99));
    }

    private static void told() {
        tried("count", (y, a) -> y.count(a[0]), order(BAD), within(0, 4));
        tried("findings", (y, a) -> y.findings(a[0]), order(BAD), within(1, 5));
        sortsThatThereAre();
        daysThatThereAre();
    }

    /** One SORT, two, three of each side: the last one is allowed, the next one BAD. */
    private static void sortsThatThereAre() {
        Check.promise("a SORT that there is not");
        for (int men = 1; men <= 3; men++) {
            for (int owners = 1; owners <= 3; owners++) {
                StrikeDays y = Check.quarrelOf("m1,1".repeat(men) + "o1,1".repeat(owners));
                y.way(0, 1);
                y.way(1, 2);
                for (int s = -1; s <= 3; s++) {
                    callsBySort(y, s, s >= 0 && s < men, s >= 0 && s < owners);
                }
            }
        }
    }

    private static void callsBySort(StrikeDays y, int s, boolean ofMen, boolean ofOwners) {
        Check.due("sort of MEN " + s, y.sort(0, s, 0), ofMen ? 1 : BAD);
        Check.due("sort of OWNERS " + s, y.sort(1, s, 0), ofOwners ? 1 : BAD);
        Check.due("run by MEN " + s, y.run(0, 1, 0, s), ofMen ? 1 : BAD);
        Check.due("run by OWNERS " + s, y.run(0, 1, s, 0), ofOwners ? 1 : BAD);
        Check.due("worth of MEN " + s, y.worth(0, 1, 0, s), ofMen ? 1 : BAD);
        Check.due("worth of OWNERS " + s, y.worth(0, 1, 1, s), ofOwners ? 1 : BAD);
        Check.due("think of MEN " + s, y.think(0, 1, 0, 0, 1, s), ofMen ? 1 : BAD);
        Check.due("think of OWNERS " + s, y.think(0, 1, 0, 0, 0, s), ofOwners ? 1 : BAD);
        Check.due("think by offers of OWNERS " + s, y.think(0, 1, s, 0, 0, 0), ofOwners ? 1 : BAD);
        Check.due("best of MEN " + s, y.best(0, 0, s), ofMen ? 1 : BAD);
        Check.due("best of OWNERS " + s, y.best(1, 1, s), ofOwners ? 1 : BAD);
        Check.due("morning of MEN " + s, y.morning(0, 1, 0, s), ofMen ? 0 : BAD);
        Check.due("morning of OWNERS " + s, y.morning(0, 1, s, 0), ofOwners ? 0 : BAD);
    }

    /** think() takes 0 to LAST, end() 1 to LAST and 1, whatever LAST is. */
    private static void daysThatThereAre() {
        Check.promise("a day that there is not");
        for (int last = 1; last <= 10; last++) {
            StrikeDays y = Check.quarrelOf("m1,1o1,1l" + last);
            y.way(0, 1);
            y.way(1, 2);
            Check.numbers(y, 1, 0, 13, 13, 13, 13, 13, 13, 13, 13, 13, 13);
            Check.due("think behind -1 days", y.think(0, 1, 0, -1, 0, 0), BAD);
            Check.due("think behind 0 days", y.think(0, 1, 0, 0, 0, 0), 1);
            Check.due("think behind LAST", y.think(0, 1, 0, last, 0, 0), 1);
            Check.due("think behind more than LAST", y.think(0, 1, 0, last + 1, 0, 0), BAD);
            Check.due("end on day 0", y.end(0, 1, 0), BAD);
            Check.due("end on day 1", y.end(0, 1, 1), 1);
            Check.due("end on the day behind LAST", y.end(0, 1, last + 1), 1);
            Check.due("end on the day behind that", y.end(0, 1, last + 2), BAD);
        }
    }
}

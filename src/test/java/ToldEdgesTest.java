import java.util.ArrayList;
import java.util.List;

/** Sentences about what is told, counted and found that name an edge, each with its own test. */
public final class ToldEdgesTest {
    private interface Call {
        int on(StrikeDays x);
    }

    public static void main(String[] args) {
        askedBefore();
        askedByTheseAlone();
        askedIsTheLatest();
        fractionsBefore();
        fractionsByTheseAlone();
        countOfNone();
        countOfAll();
        takesAndVotes();
        findingsBefore();
        eachFinding();
        badAndStateAreNoFindings();
        howOften();
        digestOfNothing();
        digestOfSizesOfNone();
        digestOfAll();
        digestOfEachNumber();
        Check.close();
    }

    /** One ROW, TEXT and kind of MEN, an OFFER of 3 and a TAKE of 3 from day 2 on, a BACK; 20 and 20 / 3 were told. */
    private static StrikeDays ready() {
        StrikeDays x = Check.quarrelOf("m1,1m2,2o3,3");
        x.row(0, 10);
        x.lay(0, 0, 8);
        x.way(0, 1);
        x.way(1, 2);
        x.way(2, 4);
        Check.numbers(x, 0, 0, 3, 3, 3, 3, 3);
        for (int sort = 0; sort < 3; sort++) {
            Check.numbers(x, 1, sort, 4, 3, 3, 3, 3);
        }
        x.men(1, 5, 0, 100);
        x.think(0, 1, 0, 0, 1, 1);
        x.told(3);
        return x;
    }

    private static void askedBefore() {
        Check.promise("What the latest ... told; 0 before.");
        StrikeDays x = new StrikeDays();
        Check.due("asked()", x.asked(), 0);
        x.told(9);
        x.lay(0, 0, 1);
        x.mean(0);
        x.sort(0, 1, 0);
        x.run(0, 1, 0, 0);
        x.gone(0, 0, 0);
        Check.due("asked() behind what was refused", x.asked(), 0);
    }

    private static void tells(String name, Call call, int asked) {
        StrikeDays x = ready();
        call.on(x);
        Check.due("asked() behind " + name, x.asked(), asked);
    }

    private static void askedByTheseAlone() {
        Check.promise("lay(), mean(), told(), sort(), run(), gone()");
        tells("lay", x -> x.lay(0, 0, 1), 8);
        tells("mean", x -> x.mean(0), 0);
        tells("told", x -> x.told(2), 10);
        tells("sort", x -> x.sort(0, 1, 1), 2);
        tells("run", x -> x.run(0, 1, 0, 0), 3);
        tells("gone", x -> x.gone(1, 0, 0), 2);
        for (Call call : others()) {
            tells("another call", call, 20);
        }
        for (Call call : withFractions()) {
            tells("a call that tells a fraction", call, 20);
        }
    }

    private static List<Call> others() {
        List<Call> calls = new ArrayList<>();
        calls.add(x -> x.row(1, 1));
        calls.add(x -> x.copy(0, 0, 0, 1, 1));
        calls.add(x -> x.tear(0));
        calls.add(x -> x.text(0, 1));
        calls.add(x -> x.put(0, 0, 1));
        calls.add(x -> x.fault(0));
        calls.add(x -> x.quarrel(0));
        calls.add(x -> x.notice(2));
        calls.add(x -> x.judge(1, 1));
        calls.add(x -> x.way(3, 1));
        calls.add(x -> x.set(0, 0, 1, 5));
        calls.add(x -> x.setAll(0, 0, 0));
        calls.add(x -> x.at(0, 0, 1));
        calls.add(x -> x.kind(0));
        calls.add(x -> x.mark(0, 1));
        calls.add(x -> x.rest(0, 1));
        calls.add(x -> x.answer(0, 1));
        calls.add(x -> x.reply(1, 0));
        calls.add(x -> x.morning(0, 1, 0, 0));
        calls.add(x -> x.men(0, 1, 1, 1));
        calls.add(x -> x.leftBy(0, 2, 0, 1));
        calls.add(x -> x.all(0, 0));
        calls.add(x -> x.turns(1));
        calls.add(x -> x.fund(0, 0));
        calls.add(x -> x.pact(1, 1, 1));
        calls.add(x -> x.asked());
        calls.add(x -> (int) x.upper());
        calls.add(x -> (int) x.lower());
        calls.add(x -> x.count(0));
        calls.add(x -> x.finding());
        calls.add(x -> x.findings(1));
        calls.add(x -> (int) x.digest());
        return calls;
    }

    private static List<Call> withFractions() {
        List<Call> calls = new ArrayList<>();
        calls.add(x -> x.worth(0, 1, 0, 0));
        calls.add(x -> x.think(0, 1, 0, 0, 1, 0));
        calls.add(x -> x.end(0, 1, 2));
        calls.add(x -> x.best(0, 0, 0));
        calls.add(x -> x.longer(0, 1));
        calls.add(x -> x.lost(0, 1));
        calls.add(x -> x.law(0, 1));
        return calls;
    }

    private static void askedIsTheLatest() {
        Check.promise("the latest ... that was not refused");
        StrikeDays x = ready();
        x.lay(0, 0, 7);
        x.lay(0, 10, 9);
        x.lay(5, 0, 9);
        x.lay(6, 0, 9);
        Check.due("asked() by lay()", x.asked(), 8);
        x.sort(0, 1, 1);
        x.sort(0, 2, 1);
        Check.due("asked() by sort()", x.asked(), 2);
        x.run(0, 1, 0, 0);
        x.run(1, 0, 0, 0);
        x.run(0, 1, 1, 0);
        Check.due("asked() by run()", x.asked(), 3);
        x.gone(1, 0, 0);
        x.gone(100, 0, 0);
        Check.due("asked() by gone()", x.asked(), 2);
        x.row(1, 0);
        x.mean(0);
        x.mean(1);
        Check.due("asked() by mean()", x.asked(), 0);
        x.told(8);
        x.told(-1);
        Check.due("asked() by told()", x.asked(), 6);
    }

    private static void fractionsBefore() {
        Check.promise("The upper number of the fraction that was told last; 0 before. Its lower number; 1 before.");
        StrikeDays x = new StrikeDays();
        Check.due("upper()", x.upper(), 0);
        Check.due("lower()", x.lower(), 1);
        for (Call call : withFractions()) {
            call.on(x);
            Check.due("upper() behind what was refused", x.upper(), 0);
            Check.due("lower() behind what was refused", x.lower(), 1);
        }
    }

    private static void fractionsByTheseAlone() {
        Check.promise("told by upper(), lower()");
        // SETTLED on day 2 at 3: 3 times 19 less 1; 1 of 3; day 2; 5 times 15 less 5 by waiting;
        // a day; 10, 3 and 1 or 2 for it; three quarters of it.
        long[][] due = {{56, 1}, {1, 3}, {1, 1}, {70, 1}, {1, 1}, {44, 3}, {3, 4}};
        List<Call> calls = withFractions();
        for (int i = 0; i < due.length; i++) {
            StrikeDays x = ready();
            calls.get(i).on(x);
            Check.due("upper() of call " + i, x.upper(), due[i][0]);
            Check.due("lower() of call " + i, x.lower(), due[i][1]);
        }
        calls = others();
        calls.add(x -> x.lay(0, 0, 1));
        calls.add(x -> x.mean(0));
        calls.add(x -> x.told(2));
        calls.add(x -> x.sort(0, 1, 1));
        calls.add(x -> x.run(0, 1, 0, 0));
        calls.add(x -> x.gone(1, 0, 0));
        for (Call call : calls) {
            StrikeDays x = ready();
            call.on(x);
            Check.due("upper() behind another call", x.upper(), 2);
            Check.due("lower() behind another call", x.lower(), 3);
        }
    }

    private static void counts(StrikeDays x, int... due) {
        for (int what = 0; what < 5; what++) {
            Check.due("count(" + what + ")", x.count(what), due[what]);
        }
    }

    private static void countOfNone() {
        Check.promise("0 ROWS, 1 TEXTS, 2 WAYS, 3 TAKES that are there, 4 all MEN of kinds: none");
        StrikeDays x = new StrikeDays();
        counts(x, 0, 0, 0, 0, 0);
        x.row(0, 0);
        counts(x, 1, 0, 0, 0, 0);
        x.text(0, 0);
        counts(x, 1, 1, 0, 0, 0);
        x.way(0, 0);
        counts(x, 1, 1, 1, 0, 0);
        x.tear(0);
        counts(x, 0, 1, 1, 0, 0);
        x.men(0, 0, 99, 100);
        counts(x, 0, 1, 1, 0, 0);
    }

    private static void countOfAll() {
        Check.promise("0 ROWS, 1 TEXTS, 2 WAYS, 3 TAKES that are there, 4 all MEN of kinds: all");
        StrikeDays x = new StrikeDays();
        for (int i = 0; i < 8; i++) {
            x.row(i, i);
            x.text(i, i);
            x.way(i, 2 + i % 2);
            x.men(i, 99, 0, 0);
        }
        counts(x, 6, 4, 8, 8, 594);
    }

    private static void takesAndVotes() {
        Check.promise("3 TAKES (VOTES, too)");
        StrikeDays x = new StrikeDays();
        int[] due = {0, 0, 1, 1, 0};
        for (int kind = 0; kind <= 4; kind++) {
            x.way(0, kind);
            Check.due("count(3) of KIND " + kind, x.count(3), due[kind]);
            Check.due("count(2) of KIND " + kind, x.count(2), 1);
        }
    }

    private static void findingsBefore() {
        Check.promise("The latest FINDING (0 before any).");
        StrikeDays x = new StrikeDays();
        Check.due("finding()", x.finding(), 0);
        for (int f = 1; f <= 5; f++) {
            Check.due("findings(" + f + ")", x.findings(f), 0);
        }
        Check.due("findings(0)", x.findings(0), StrikeDays.BAD);
        Check.due("findings(6)", x.findings(6), StrikeDays.BAD);
        Check.due("findings(MIN)", x.findings(Integer.MIN_VALUE), StrikeDays.BAD);
        Check.due("findings(MAX)", x.findings(Integer.MAX_VALUE), StrikeDays.BAD);
    }

    private static void found(StrikeDays x, String name, int answer, int f) {
        Check.finding(x, name, x.findings(f) - 1, answer, f);
    }

    private static void eachFinding() {
        StrikeDays x = ready();
        x.row(1, 0);
        Check.promise("1 NOTHING (a ROW, a TEXT, a WAY that is missing)");
        found(x, "a ROW", x.tear(5), 1);
        found(x, "a TEXT", x.put(3, 0, 0), 1);
        found(x, "a WAY", x.kind(7), 1);
        Check.promise("2 BEYOND (a place that there is not)");
        found(x, "a ROW's", x.lay(1, 0, 0), 2);
        found(x, "a TEXT's", x.put(0, 12, 0), 2);
        found(x, "of a copy", x.copy(0, 0, 1, 0, 1), 2);
        Check.promise("3 UNLIKE (a WAY of another KIND; a number that is none)");
        found(x, "another KIND", x.mark(0, 2), 3);
        found(x, "a number", x.set(0, 0, 1, 13), 3);
        Check.promise("4 NOUGHT (shared among none)");
        found(x, "a mean", x.mean(1), 4);
        found(x, "a share", x.think(0, 1, 0, 5, 0, 0), 4);
        Check.promise("5 SIZE (fewer than none; not as many as due)");
        found(x, "a ROW", x.row(0, -1), 5);
        found(x, "a TEXT", x.text(0, -1), 5);
        found(x, "a copy", x.copy(0, 0, 0, 0, -1), 5);
        found(x, "not ten", x.setAll(0, 0, 1), 5);
        int[] due = {3, 3, 2, 2, 4};
        Check.promise("How often a FINDING (1 .. 5) was answered.");
        for (int f = 1; f <= 5; f++) {
            Check.due("findings(" + f + ")", x.findings(f), due[f - 1]);
        }
    }

    private static void badAndStateAreNoFindings() {
        Check.promise("FINDING -3 (finding() tells which)");
        StrikeDays x = ready();
        x.text(1, 0);
        x.tear(5);
        Check.due("BAD", x.row(6, -1), StrikeDays.BAD);
        Check.due("STATE", x.quarrel(1), StrikeDays.STATE);
        Check.due("NONE", x.all(0, 0) + x.turns(1), 1 + StrikeDays.NONE);
        Check.due("fine", x.row(0, 1), 1);
        Check.due("finding() as before", x.finding(), 1);
        Check.due("findings(1)", x.findings(1), 1);
        Check.due("findings(5)", x.findings(5), 0);
    }

    private static void howOften() {
        Check.promise("An object is used for at most 512 calls");
        StrikeDays x = new StrikeDays();
        for (int i = 0; i < 510; i++) {
            x.tear(i % 6);
        }
        Check.due("findings(1)", x.findings(1), 510);
        Check.due("finding()", x.finding(), 1);
        x = new StrikeDays();
        for (int i = 0; i < 511; i++) {
            x.row(i % 6, 40);
        }
        Check.due("count(0)", x.count(0), 6);
    }

    private static final class Digest {
        private long h = 17;

        Digest of(long... values) {
            for (long v : values) {
                h = 31 * h + v;
            }
            return this;
        }

        Digest times(int n, long v) {
            for (int i = 0; i < n; i++) {
                of(v);
            }
            return this;
        }
    }

    private static Digest first(int rows, int texts, int ways, int takes, int men) {
        return new Digest().of(rows, texts, ways, takes, men, 1, 1, 10, 20, 5, 5, 1, 0, 6, 1, 1, 1, 1);
    }

    private static void digestOfNothing() {
        Check.promise("h = 17; then h = 31 h + v ... (-1 once: missing)");
        Digest due = first(0, 0, 0, 0, 0).times(8, -1).times(18, 0).times(10, -1);
        Check.due("digest()", new StrikeDays().digest(), due.h);
        StrikeDays x = new StrikeDays();
        x.tear(0);
        x.told(2);
        Check.due("FINDINGS, asked() are not in it", x.digest(), due.h);
        Check.due("it changes nothing", x.digest(), due.h);
        Check.due("asked() as before", x.asked(), 10);
    }

    private static void digestOfSizesOfNone() {
        Check.promise("of each ROW its size (-1: missing) and places, of each TEXT likewise");
        StrikeDays x = new StrikeDays();
        x.row(0, 0);
        x.row(5, 1);
        x.text(0, 1);
        x.text(3, 0);
        Digest due = first(2, 2, 0, 0, 0).times(8, -1).times(18, 0);
        due.of(0).times(4, -1).of(1, 0).of(1, 32).times(2, -1).of(0);
        Check.due("digest()", x.digest(), due.h);
        x.lay(5, 0, Integer.MIN_VALUE);
        x.put(0, 0, 255);
        due = first(2, 2, 0, 0, 0).times(8, -1).times(18, 0);
        due.of(0).times(4, -1).of(1, Integer.MIN_VALUE).of(1, -1).times(2, -1).of(0);
        Check.due("digest() of the least int, and a byte below 0", x.digest(), due.h);
    }

    private static void digestOfAll() {
        Check.promise("count() 0 to 4; told() 0 to 8; ... of each TEXT likewise: all there");
        StrikeDays x = Check.quarrelOf("m1,2m3,4m5,6o7,8o9,10o1,99v12h40l10w11");
        x.notice(9);
        x.judge(8, 7);
        x.row(0, 10);
        for (int i = 0; i < 10; i++) {
            x.lay(0, i, i + 1);
        }
        for (int w = 0; w < 8; w++) {
            x.way(w, w % 5);
            for (int sort = 0; sort < 3; sort++) {
                x.setAll(w, sort, 0);
            }
        }
        for (int k = 0; k < 6; k++) {
            x.men(k, 99 - k, 50 + k, 100 - k);
        }
        for (int r = 0; r < 6; r++) {
            x.row(r, 40);
            x.lay(r, 0, r);
            x.lay(r, 39, -r);
        }
        for (int t = 0; t < 4; t++) {
            x.text(t, 60);
            x.put(t, 0, t);
            x.put(t, 59, -t);
        }
        Digest due = new Digest().of(6, 4, 8, 3, 579, 3, 3, 12, 40, 10, 11, 9, 8, 7);
        due.of(1, 2, 3, 4, 5, 6, 7, 8, 9, 10, 1, 99);
        for (int w = 0; w < 8; w++) {
            due.of(w % 5);
            for (int sort = 0; sort < 3; sort++) {
                due.of(1, 2, 3, 4, 5, 6, 7, 8, 9, 10);
            }
        }
        for (int k = 0; k < 6; k++) {
            due.of(99 - k, 50 + k, 100 - k);
        }
        for (int r = 0; r < 6; r++) {
            due.of(40, r).times(38, 0).of(-r);
        }
        for (int t = 0; t < 4; t++) {
            due.of(60, t).times(58, 32).of(-t);
        }
        Check.due("digest()", x.digest(), due.h);
    }

    /** One more at a place is 31 to the power of how many come behind it more. */
    private static void digestOfEachNumber() {
        Check.promise("of each WAY KIND, its numbers (by SORTS, then days)");
        long power = 1;
        StrikeDays x = new StrikeDays();
        x.way(7, 0);
        x.row(5, 40);
        x.text(3, 60);
        for (int i = 59; i >= 0; i--, power *= 31) {
            differs(x.digest(), x.put(3, i, 33), x.digest(), 1032, power);
            x.put(3, i, 32);
        }
        // The size of TEXT 3, three TEXTS that are missing.
        power *= 31L * 31 * 31 * 31;
        x = new StrikeDays();
        x.way(7, 0);
        x.row(5, 40);
        x.text(3, 60);
        for (int i = 39; i >= 0; i--, power *= 31) {
            differs(x.digest(), x.lay(5, i, 1), x.digest(), 1, power);
            x.lay(5, i, 0);
        }
        // The size of ROW 5, five ROWS that are missing, six kinds of MEN.
        for (int behind = 0; behind < 1 + 5 + 18; behind++) {
            power *= 31;
        }
        for (int place = 29; place >= 0; place--, power *= 31) {
            differs(x.digest(), x.set(7, place / 10, place % 10 + 1, 1), x.digest(), 0, power);
            x.set(7, place / 10, place % 10 + 1, 0);
        }
        differs(x.digest(), x.way(7, 1), x.digest(), 1, power);
    }

    private static void differs(long before, int answer, long after, int due, long power) {
        Check.due("the call", answer, due);
        Check.due("digest() less what it was", after - before, power);
    }
}

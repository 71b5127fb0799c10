import java.util.ArrayList;
import java.util.List;
import java.util.Map;
import java.util.TreeMap;

/**
 * The document once more, as slow and plain as its words: trees of chances with fractions of any size,
 * histories compared as lists, texts read sign by sign. Answers of StrikeDays are compared with these.
 */
final class Model {
    static final int BAD = -1, FINDING = -3, STATE = -4, NONE = -9;

    final int[][] rows = new int[6][];
    final byte[][] texts = new byte[4][];
    final int[][][] numbers = new int[8][][];
    final int[] kinds = new int[8];
    List<int[]> men = new ArrayList<>(List.of(new int[] {1, 1}));
    List<int[]> owners = new ArrayList<>(List.of(new int[] {1, 1}));
    int v = 10, h = 20, l = 5, w = 5, notice = 1, twelfths = 0, judgeWage = 6;
    final int[][] strikers = new int[6][3];
    int asked = 0, finding = 0;
    final int[] findings = new int[6];
    Share told = Share.NOUGHT;

    private int find(int f) {
        finding = f;
        findings[f]++;
        return FINDING;
    }

    private static boolean in(int x, int a, int b) {
        return a <= x && x <= b;
    }

    List<int[]> side(int side) {
        return side == 0 ? men : owners;
    }

    boolean isSort(int side, int s) {
        return in(side, 0, 1) && in(s, 0, side(side).size() - 1);
    }

    int row(int r, int n) {
        if (!in(r, 0, 5) || n > 40) return BAD;
        if (n < 0) return find(5);
        rows[r] = new int[n];
        return n;
    }

    int lay(int r, int i, int x) {
        if (!in(r, 0, 5)) return BAD;
        if (rows[r] == null) return find(1);
        if (!in(i, 0, rows[r].length - 1)) return find(2);
        asked = rows[r][i];
        rows[r][i] = x;
        return 1;
    }

    int tear(int r) {
        if (!in(r, 0, 5)) return BAD;
        if (rows[r] == null) return find(1);
        rows[r] = null;
        return 1;
    }

    int copy(int r, int i, int to, int j, int n) {
        if (!in(r, 0, 5) || !in(to, 0, 5)) return BAD;
        if (n < 0) return find(5);
        if (rows[r] == null || rows[to] == null) return find(1);
        if (i < 0 || j < 0 || (long) i + n > rows[r].length || (long) j + n > rows[to].length) return find(2);
        int[] taken = rows[r].clone();
        for (int k = 0; k < n; k++) rows[to][j + k] = taken[i + k];
        return 1;
    }

    int mean(int r) {
        if (!in(r, 0, 5)) return BAD;
        if (rows[r] == null) return find(1);
        if (rows[r].length == 0) return find(4);
        java.math.BigInteger sum = java.math.BigInteger.ZERO;
        for (int x : rows[r]) sum = sum.add(java.math.BigInteger.valueOf(x));
        asked = sum.divide(java.math.BigInteger.valueOf(rows[r].length)).intValueExact();
        return 1;
    }

    int text(int t, int n) {
        if (!in(t, 0, 3) || n > 60) return BAD;
        if (n < 0) return find(5);
        texts[t] = " ".repeat(n).getBytes(java.nio.charset.StandardCharsets.ISO_8859_1);
        return n;
    }

    int put(int t, int i, int x) {
        if (!in(t, 0, 3)) return BAD;
        if (texts[t] == null) return find(1);
        if (!in(i, 0, texts[t].length - 1)) return find(2);
        int was = texts[t][i];
        texts[t][i] = (byte) x;
        return was + 1000;
    }

    /** Reads by a table of states: what a sign may be behind what was read. */
    private final class Reading {
        final List<int[]> men = new ArrayList<>();
        final List<int[]> owners = new ArrayList<>();
        final int[] plain = {10, 20, 5, 5};
        char item = 0;
        String figures = "";
        int chance = 0;
        boolean costs = false;

        int fault(byte[] signs) {
            for (int i = 0; i < signs.length; i++) {
                if (!takes((char) (signs[i] & 255))) return i;
            }
            if (item != 0 && !ends()) return signs.length;
            if (men.isEmpty() || owners.isEmpty() || plain[2] > plain[1]) return signs.length;
            return NONE;
        }

        /** A number is behind, so what it is has to be right ahead of any other sign. */
        boolean takes(char sign) {
            boolean figure = sign >= '0' && sign <= '9';
            if (item == 0) return begins(sign);
            if (figure && figures.length() < 2) {
                figures += sign;
                return true;
            }
            if (figures.isEmpty()) return false;
            if ("mo".indexOf(item) >= 0 && !costs) {
                chance = Integer.parseInt(figures);
                if (chance < 1 || chance > 9 || sign != ',') return false;
                costs = true;
                figures = "";
                return true;
            }
            return ends() && begins(sign);
        }

        boolean begins(char sign) {
            if (sign == ' ') return true;
            if ("movhlw".indexOf(sign) < 0) return false;
            if (sign == 'm' && men.size() == 3 || sign == 'o' && owners.size() == 3) return false;
            item = sign;
            figures = "";
            costs = false;
            return true;
        }

        boolean ends() {
            if (figures.isEmpty()) return false;
            int n = Integer.parseInt(figures);
            if (item == 'm' || item == 'o') {
                if (!costs) return false;
                (item == 'm' ? men : owners).add(new int[] {chance, n});
            } else {
                int which = "vhlw".indexOf(item);
                if (!in(n, new int[] {0, 1, 1, 0}[which], new int[] {99, 40, 10, 12}[which])) return false;
                plain[which] = n;
            }
            item = 0;
            return true;
        }
    }

    int fault(int t) {
        if (!in(t, 0, 3)) return BAD;
        if (texts[t] == null) return find(1);
        return new Reading().fault(texts[t]);
    }

    int quarrel(int t) {
        if (!in(t, 0, 3)) return BAD;
        if (texts[t] == null) return find(1);
        Reading reading = new Reading();
        if (reading.fault(texts[t]) != NONE) return STATE;
        men = reading.men;
        owners = reading.owners;
        v = reading.plain[0];
        h = reading.plain[1];
        l = reading.plain[2];
        w = reading.plain[3];
        return men.size() + owners.size();
    }

    private int[] toldAll() {
        return new int[] {men.size(), owners.size(), v, h, l, w, notice, twelfths, judgeWage};
    }

    int told(int what) {
        if (!in(what, 0, 8)) return BAD;
        asked = toldAll()[what];
        return 1;
    }

    int sort(int side, int s, int what) {
        if (!isSort(side, s) || !in(what, 0, 1)) return BAD;
        asked = side(side).get(s)[what];
        return 1;
    }

    int notice(int day) {
        if (!in(day, 1, 10)) return BAD;
        int was = notice;
        notice = day;
        return was;
    }

    int judge(int a, int wage) {
        if (!in(a, 0, 12) || !in(wage, 0, 12)) return BAD;
        twelfths = a;
        judgeWage = wage;
        return 1;
    }

    int way(int way, int kind) {
        if (!in(way, 0, 7) || !in(kind, 0, 4)) return BAD;
        numbers[way] = new int[3][11];
        kinds[way] = kind;
        return 1;
    }

    private boolean fits(int way, int x) {
        return in(x, 0, new int[] {99, 12, 13, 13, 99}[kinds[way]]);
    }

    int set(int way, int sort, int day, int x) {
        if (!in(way, 0, 7) || !in(sort, 0, 2) || !in(day, 1, 10)) return BAD;
        if (numbers[way] == null) return find(1);
        if (!fits(way, x)) return find(3);
        int was = numbers[way][sort][day];
        numbers[way][sort][day] = x;
        return was;
    }

    int setAll(int way, int sort, int r) {
        if (!in(way, 0, 7) || !in(sort, 0, 2) || !in(r, 0, 5)) return BAD;
        if (numbers[way] == null || rows[r] == null) return find(1);
        if (rows[r].length != 10) return find(5);
        for (int x : rows[r]) if (!fits(way, (byte) x)) return find(3);
        for (int d = 1; d <= 10; d++) numbers[way][sort][d] = (byte) rows[r][d - 1];
        return 1;
    }

    int at(int way, int sort, int day) {
        if (!in(way, 0, 7) || !in(sort, 0, 2) || !in(day, 1, 10)) return BAD;
        if (numbers[way] == null) return find(1);
        return numbers[way][sort][day];
    }

    int kind(int way) {
        if (!in(way, 0, 7)) return BAD;
        return numbers[way] == null ? find(1) : kinds[way];
    }

    int mark(int way, int kind) {
        if (!in(way, 0, 7) || !in(kind, 1, 4)) return BAD;
        if (numbers[way] == null) return find(1);
        if (kinds[way] != kind && !(kind == 2 && kinds[way] == 3)) return find(3);
        List<Integer> all = new ArrayList<>();
        for (int[] of : numbers[way]) for (int d = 1; d <= 10; d++) all.add(of[d]);
        if (kind == 1) return all.stream().max(Integer::compare).get();
        if (kind == 2) return all.stream().min(Integer::compare).get();
        if (kind == 4) return all.stream().mapToInt(x -> x).sum();
        List<Integer> chances = new ArrayList<>();
        for (int[] m : men) chances.add(m[0]);
        chances.sort((a, b) -> b - a);
        int have = 0;
        int needed = 0;
        while (2 * have <= total(0)) have += chances.get(needed++);
        return needed;
    }

    private int pairRefused(int offer, int take, boolean voteToo) {
        if (!in(offer, 0, 7) || !in(take, 0, 7)) return BAD;
        if (numbers[offer] == null || numbers[take] == null) return find(1);
        boolean fine = kinds[offer] == 1 && (kinds[take] == 2 || voteToo && kinds[take] == 3);
        return fine ? 0 : find(3);
    }

    int total(int side) {
        int sum = 0;
        for (int[] s : side(side)) sum += s[0];
        return sum;
    }

    long pay(int side, int s, int day, int wage) {
        long a = side == 0 ? wage : v - wage;
        return a * (h - day + 1) - (long) side(side).get(s)[1] * (day - 1);
    }

    boolean taken(int take, int m, int day, int wage) {
        if (kinds[take] != 3) return wage >= numbers[take][m][day];
        int have = 0;
        for (int s = 0; s < men.size(); s++) if (wage >= numbers[take][s][day]) have += men.get(s)[0];
        return have > total(0) - have;
    }

    int day(int offer, int take, int o, int m, int from) {
        for (int d = from; d <= l; d++) if (taken(take, m, d, numbers[offer][o][d])) return d;
        return l + 1;
    }

    int wage(int offer, int o, int day) {
        return day == l + 1 ? w : numbers[offer][o][day];
    }

    int run(int offer, int take, int o, int m) {
        if (!isSort(1, o) || !isSort(0, m)) return BAD;
        int no = pairRefused(offer, take, true);
        if (no != 0) return no;
        int day = day(offer, take, o, m, notice);
        asked = wage(offer, o, day);
        return day;
    }

    /** The tree of one pair of SORTS, from a day's morning on. */
    private Share mean(int offer, int take, int o, int m, int side, int day) {
        int s = side == 0 ? m : o;
        if (day > l) return Share.of(pay(side, s, l + 1, w), 1);
        Share later = day >= notice && taken(take, m, day, numbers[offer][o][day])
            ? Share.of(pay(side, s, day, numbers[offer][o][day]), 1) : mean(offer, take, o, m, side, day + 1);
        return judged(side, s, day, later);
    }

    private Share judged(int side, int s, int day, Share later) {
        return Share.of(twelfths, 12).times(Share.of(pay(side, s, day, judgeWage), 1))
            .plus(Share.of(12 - twelfths, 12).times(later));
    }

    Share worthOf(int offer, int take, int side, int s) {
        Share sum = Share.NOUGHT;
        for (int t = 0; t < side(1 - side).size(); t++) {
            Share one = side == 0 ? mean(offer, take, t, s, 0, 1) : mean(offer, take, s, t, 1, 1);
            sum = sum.plus(Share.of(side(1 - side).get(t)[0], total(1 - side)).times(one));
        }
        return sum;
    }

    int worth(int offer, int take, int side, int s) {
        if (!isSort(side, s)) return BAD;
        int no = pairRefused(offer, take, true);
        if (no != 0) return no;
        told = worthOf(offer, take, side, s);
        return 1;
    }

    private List<Integer> seen(int offer, int o, int d) {
        List<Integer> list = new ArrayList<>();
        for (int day = notice; day <= d; day++) list.add(numbers[offer][o][day]);
        return list;
    }

    int think(int offer, int take, int o, int d, int side, int s) {
        if (!isSort(1, o) || !in(d, 0, l) || !in(side, 0, 1) || !isSort(1 - side, s)) return BAD;
        int no = pairRefused(offer, take, true);
        if (no != 0) return no;
        int out = 0;
        for (int m = 0; m < men.size(); m++) if (day(offer, take, o, m, notice) > d) out += men.get(m)[0];
        if (out == 0) return find(4);
        if (side == 1) {
            told = day(offer, take, o, s, notice) > d ? Share.of(men.get(s)[0], out) : Share.NOUGHT;
            return 1;
        }
        int alike = 0;
        for (int p = 0; p < owners.size(); p++) {
            if (seen(offer, p, d).equals(seen(offer, o, d))) alike += owners.get(p)[0];
        }
        told = seen(offer, s, d).equals(seen(offer, o, d)) ? Share.of(owners.get(s)[0], alike) : Share.NOUGHT;
        return 1;
    }

    private Share pairMean(java.util.function.IntBinaryOperator of) {
        Share sum = Share.NOUGHT;
        for (int o = 0; o < owners.size(); o++) {
            for (int m = 0; m < men.size(); m++) {
                Share chance = Share.of(owners.get(o)[0], total(1)).times(Share.of(men.get(m)[0], total(0)));
                sum = sum.plus(chance.times(Share.of(of.applyAsInt(o, m), 1)));
            }
        }
        return sum;
    }

    int end(int offer, int take, int day) {
        if (!in(day, 1, l + 1)) return BAD;
        int no = pairRefused(offer, take, true);
        if (no != 0) return no;
        told = pairMean((o, m) -> day(offer, take, o, m, notice) == day ? 1 : 0);
        return 1;
    }

    /** What a set of SORTS is worth to go on with, from the morning of a day, as a mean over the set. */
    Share bestOfMen(int offer, int s, int day, List<Integer> set) {
        if (day > l) return Share.of(pay(0, s, l + 1, w), 1);
        if (day < notice) return judged(0, s, day, bestOfMen(offer, s, day + 1, set));
        Map<Integer, List<Integer>> byOffer = new TreeMap<>();
        for (int o : set) byOffer.computeIfAbsent(numbers[offer][o][day], x -> new ArrayList<>()).add(o);
        Share sum = Share.NOUGHT;
        for (Map.Entry<Integer, List<Integer>> part : byOffer.entrySet()) {
            Share take = Share.of(pay(0, s, day, part.getKey()), 1);
            Share goOn = bestOfMen(offer, s, day + 1, part.getValue());
            Share better = take.compareTo(goOn) >= 0 ? take : goOn;
            sum = sum.plus(Share.of(weight(1, part.getValue()), weight(1, set)).times(better));
        }
        return judged(0, s, day, sum);
    }

    int weight(int side, List<Integer> set) {
        int sum = 0;
        for (int s : set) sum += side(side).get(s)[0];
        return sum;
    }

    /** What was worked out already, since thirteen offers a day would else be tried again behind each other. */
    private final Map<String, Share> known = new TreeMap<>();

    Share bestOfOwners(int take, int s, int day, List<Integer> set) {
        String key = s + " " + day + " " + set;
        if (!known.containsKey(key)) known.put(key, unknownBestOfOwners(take, s, day, set));
        return known.get(key);
    }

    private Share unknownBestOfOwners(int take, int s, int day, List<Integer> set) {
        if (day > l) return Share.of(pay(1, s, l + 1, w), 1);
        if (day < notice) return judged(1, s, day, bestOfOwners(take, s, day + 1, set));
        Share most = null;
        for (int x = 0; x <= 12; x++) {
            Share mean = meanOfOffer(take, s, day, set, x);
            if (most == null || mean.compareTo(most) > 0) most = mean;
        }
        return judged(1, s, day, most);
    }

    private List<Integer> refusing(int take, int day, List<Integer> set, int x) {
        List<Integer> out = new ArrayList<>();
        for (int m : set) if (!taken(take, m, day, x)) out.add(m);
        return out;
    }

    private Share meanOfOffer(int take, int s, int day, List<Integer> set, int x) {
        List<Integer> out = refusing(take, day, set, x);
        Share goOn = out.isEmpty() ? Share.NOUGHT
            : Share.of(weight(0, out), weight(0, set)).times(bestOfOwners(take, s, day + 1, out));
        Share settled = Share.of(weight(0, set) - weight(0, out), weight(0, set));
        return settled.times(Share.of(pay(1, s, day, x), 1)).plus(goOn);
    }

    List<Integer> every(int side) {
        List<Integer> set = new ArrayList<>();
        for (int s = 0; s < side(side).size(); s++) set.add(s);
        return set;
    }

    Share bestOf(int way, int side, int s) {
        known.clear();
        return side == 0 ? bestOfMen(way, s, 1, every(1)) : bestOfOwners(way, s, 1, every(0));
    }

    int best(int way, int side, int s) {
        if (!in(way, 0, 7) || !isSort(side, s)) return BAD;
        if (numbers[way] == null) return find(1);
        if (kinds[way] != (side == 0 ? 1 : 2)) return find(3);
        told = bestOf(way, side, s);
        return 1;
    }

    int rest(int offer, int take) {
        int no = pairRefused(offer, take, false);
        if (no != 0) return no;
        for (int side = 0; side <= 1; side++) {
            for (int s = 0; s < side(side).size(); s++) {
                Share best = bestOf(side == 0 ? offer : take, side, s);
                if (best.compareTo(worthOf(offer, take, side, s)) > 0) return 10 * side + s;
            }
        }
        return NONE;
    }

    private int change(int way, int sort, int day, int x) {
        int was = numbers[way][sort][day];
        numbers[way][sort][day] = x;
        return was == x ? 0 : 1;
    }

    int answer(int offer, int take) {
        int no = pairRefused(offer, take, false);
        if (no != 0) return no;
        int changed = 0;
        known.clear();
        for (int s = 0; s < owners.size(); s++) {
            List<Integer> set = every(0);
            for (int d = 1; d <= 10; d++) {
                int chosen = 0;
                if (d >= notice && d <= l && !set.isEmpty()) {
                    for (int x = 1; x <= 12; x++) {
                        Share mean = meanOfOffer(take, s, d, set, x);
                        if (mean.compareTo(meanOfOffer(take, s, d, set, chosen)) > 0) chosen = x;
                    }
                    set = refusing(take, d, set, chosen);
                }
                changed += change(offer, s, d, chosen);
            }
        }
        return changed;
    }

    int reply(int take, int offer) {
        int no = pairRefused(offer, take, false);
        if (no != 0) return no;
        int changed = 0;
        for (int s = 0; s < men.size(); s++) {
            for (int d = 1; d <= 10; d++) {
                int least = 13;
                if (d >= notice && d <= l) {
                    Map<String, List<Integer>> sets = new TreeMap<>();
                    for (int o : every(1)) {
                        sets.computeIfAbsent(seen(offer, o, d).toString(), x -> new ArrayList<>()).add(o);
                    }
                    for (List<Integer> set : sets.values()) {
                        int x = numbers[offer][set.get(0)][d];
                        Share now = Share.of(pay(0, s, d, x), 1);
                        if (now.compareTo(bestOfMen(offer, s, d + 1, set)) >= 0) least = Math.min(least, x);
                    }
                }
                changed += change(take, s, d, least);
            }
        }
        return changed;
    }

    int longer(int offer, int take) {
        int no = pairRefused(offer, take, true);
        if (no != 0) return no;
        told = pairMean((o, m) -> day(offer, take, o, m, notice) - 1);
        return 1;
    }

    int lost(int offer, int take) {
        int no = pairRefused(offer, take, true);
        if (no != 0) return no;
        told = pairMean((o, m) -> (v + owners.get(o)[1] + men.get(m)[1]) * (day(offer, take, o, m, notice) - 1));
        return 1;
    }

    int morning(int offer, int take, int o, int m) {
        if (!isSort(1, o) || !isSort(0, m)) return BAD;
        int no = pairRefused(offer, take, true);
        if (no != 0) return no;
        int day = day(offer, take, o, m, notice);
        int x = wage(offer, o, day);
        int bits = 0;
        for (int y = 0; y <= 12; y++) {
            boolean noLess = pay(0, m, 1, y) >= pay(0, m, day, x) && pay(1, o, 1, y) >= pay(1, o, day, x);
            boolean more = pay(0, m, 1, y) > pay(0, m, day, x) || pay(1, o, 1, y) > pay(1, o, day, x);
            if (noLess && more) bits += 1 << y;
        }
        return bits;
    }

    private Share daysLost(int settled, int day, int a) {
        if (day > l) return Share.of(l, 1);
        Share later = day == settled ? Share.of(day - 1, 1) : daysLost(settled, day + 1, a);
        return Share.of(a, 12).times(Share.of(day - 1, 1)).plus(Share.of(12 - a, 12).times(later));
    }

    int law(int offer, int take) {
        int no = pairRefused(offer, take, true);
        if (no != 0) return no;
        Share fewest = null;
        int chosen = 0;
        for (int n = 1; n <= 4; n++) {
            for (int a : new int[] {0, 3}) {
                Share sum = Share.NOUGHT;
                for (int o = 0; o < owners.size(); o++) {
                    for (int m = 0; m < men.size(); m++) {
                        Share chance = Share.of(owners.get(o)[0] * men.get(m)[0], total(0) * total(1));
                        sum = sum.plus(chance.times(daysLost(day(offer, take, o, m, n), 1, a)));
                    }
                }
                if (fewest == null || sum.compareTo(fewest) < 0) {
                    fewest = sum;
                    chosen = 10 * n + a;
                }
            }
        }
        told = fewest;
        return chosen;
    }

    int men(int kind, int many, int left, int t) {
        if (!in(kind, 0, 5) || !in(many, 0, 99) || !in(left, 0, 99) || !in(t, 0, 100)) return BAD;
        strikers[kind] = new int[] {many, left, t};
        return 1;
    }

    int leftBy(int kind, int way, int sort, int day) {
        if (!in(kind, 0, 5) || !in(way, 0, 7) || !in(sort, 0, 2) || !in(day, 1, 10)) return BAD;
        if (numbers[way] == null) return find(1);
        if (kinds[way] != 4) return find(3);
        strikers[kind][1] = numbers[way][sort][day];
        return strikers[kind][1];
    }

    int menInAll() {
        int sum = 0;
        for (int[] k : strikers) sum += k[0];
        return sum;
    }

    /** For each day 1 to 99 which kinds are BACK on it (bits), and at 0 for how many days the FUND paid in a row. */
    private int[] live(int fund, int in, int turned) {
        int[] backBy = new int[100];
        int[] left = new int[6];
        for (int k = 0; k < 6; k++) left[k] = k == turned ? 0 : strikers[k][1];
        int bits = 0;
        boolean row = true;
        for (int d = 1; d <= 99; d++) {
            for (int k = 0; k < 6; k++) if (left[k] <= 0) bits |= 1 << k;
            for (int was = -1; was != bits; ) {
                was = bits;
                for (int k = 0; k < 6; k++) {
                    if (100 * many(bits) >= strikers[k][2] * menInAll()) bits |= 1 << k;
                }
            }
            backBy[d] = bits;
            fund += in;
            int out = menInAll() - many(bits);
            if (fund >= out) {
                fund -= out;
                if (row) backBy[0]++;
            } else {
                row = false;
                for (int k = 0; k < 6; k++) if ((bits >> k & 1) == 0) left[k]--;
            }
        }
        return backBy;
    }

    private int many(int bits) {
        int sum = 0;
        for (int k = 0; k < 6; k++) sum += (bits >> k & 1) * strikers[k][0];
        return sum;
    }

    int gone(int day, int fund, int in) {
        if (!in(day, 1, 99) || !in(fund, 0, 9999) || !in(in, 0, 999)) return BAD;
        int bits = live(fund, in, NONE)[day];
        asked = 0;
        for (int k = 0; k < 6; k++) if ((bits >> k & 1) == 1 && strikers[k][0] > 0) asked |= 1 << k;
        return many(bits);
    }

    private int firstAll(int[] backBy) {
        for (int d = 1; d <= 99; d++) if (many(backBy[d]) == menInAll()) return d;
        return NONE;
    }

    int all(int fund, int in) {
        if (!in(fund, 0, 9999) || !in(in, 0, 999)) return BAD;
        return firstAll(live(fund, in, NONE));
    }

    int turns(int day) {
        if (!in(day, 1, 99)) return BAD;
        if (many(live(0, 0, NONE)[day]) == menInAll()) return NONE;
        for (int fewest = 1; fewest <= 99; fewest++) {
            for (int k = 0; k < 6; k++) {
                if (strikers[k][0] == fewest && many(live(0, 0, k)[day]) == menInAll()) return k;
            }
        }
        return NONE;
    }

    int fund(int fund, int in) {
        if (!in(fund, 0, 9999) || !in(in, 0, 999)) return BAD;
        return live(fund, in, NONE)[0];
    }

    int pact(int k, int g, int lose) {
        if (!in(k, 1, 9) || !in(g, 0, 99) || !in(lose, 0, 99)) return BAD;
        int need = lose * (k - 1);
        if (need == 0) return 1;
        if (g == 0) return NONE;
        int n = (need + g - 1) / g;
        return n > 99 ? NONE : n;
    }

    int count(int what) {
        if (!in(what, 0, 4)) return BAD;
        int[] counts = new int[5];
        for (int[] r : rows) if (r != null) counts[0]++;
        for (byte[] t : texts) if (t != null) counts[1]++;
        for (int i = 0; i < 8; i++) {
            if (numbers[i] != null) counts[2]++;
            if (numbers[i] != null && (kinds[i] == 2 || kinds[i] == 3)) counts[3]++;
        }
        counts[4] = menInAll();
        return counts[what];
    }

    int findings(int f) {
        return in(f, 1, 5) ? findings[f] : BAD;
    }

    long digest() {
        List<Integer> values = new ArrayList<>();
        for (int what = 0; what <= 4; what++) values.add(count(what));
        for (int x : toldAll()) values.add(x);
        for (int side = 0; side <= 1; side++) {
            for (int[] s : side(side)) {
                values.add(s[0]);
                values.add(s[1]);
            }
        }
        for (int i = 0; i < 8; i++) {
            values.add(numbers[i] == null ? -1 : kinds[i]);
            for (int s = 0; numbers[i] != null && s < 3; s++) {
                for (int d = 1; d <= 10; d++) values.add(numbers[i][s][d]);
            }
        }
        for (int[] k : strikers) for (int x : k) values.add(x);
        for (int[] r : rows) {
            values.add(r == null ? -1 : r.length);
            for (int i = 0; r != null && i < r.length; i++) values.add(r[i]);
        }
        for (byte[] t : texts) {
            values.add(t == null ? -1 : t.length);
            for (int i = 0; t != null && i < t.length; i++) values.add((int) t[i]);
        }
        long hash = 17;
        for (int x : values) hash = 31 * hash + x;
        return hash;
    }
}

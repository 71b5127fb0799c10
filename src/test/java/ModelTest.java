import java.util.Random;

/** Runs of at most 512 calls by a fixed seed, ordinary and wrong ones, each answer compared with the Model's. */
public final class ModelTest {
    private static final int RUNS = 20000;
    /** A QUARREL written and compared takes up to 85 calls, so a run that has fewer left ends. */
    private static final int CALLS = 512 - 85;
    private static final int[] ODD = {
        Integer.MIN_VALUE, Integer.MAX_VALUE, -1, -2, 0, 1, 5, 6, 7, 8, 10, 11, 12, 13, 14, 40, 41, 60, 61, 99, 100, 101,
        127, 128, 255, 256, 999, 1000, 9999, 10000, -128, -129, -256
    };

    private static Random random;
    private static StrikeDays x;
    private static Model m;
    private static int used;

    public static void main(String[] args) {
        int wrong = 0;
        long compared = 0;
        int longest = 0;
        for (int run = 0; run < RUNS && wrong == 0; run++) {
            random = new Random(9001 + run);
            x = new StrikeDays();
            m = new Model();
            used = 0;
            for (int call = 0; used <= CALLS && wrong == 0; call++, compared++) {
                String said = call < 3 && random.nextInt(4) > 0 ? beginning(call) : oneCall();
                if (!said.isEmpty()) {
                    wrong++;
                    System.out.println("run " + run + ", call " + call + ": " + said);
                }
            }
            longest = Math.max(longest, used);
        }
        System.out.println(RUNS + " runs of at most " + longest + " calls, " + compared + " of them compared, "
            + wrong + " not as the model's");
        if (wrong != 0 || longest > 512) {
            System.exit(1);
        }
    }

    /** Most runs begin with a QUARREL, an OFFER and a TAKE, so that few calls are spent on what is missing. */
    private static String beginning(int call) {
        if (call == 0) {
            return writtenQuarrel(0, someQuarrel());
        }
        return filledWay(random.nextInt(8), call);
    }

    private static int number(int least, int greatest) {
        if (random.nextInt(60) == 0) {
            return ODD[random.nextInt(ODD.length)];
        }
        return least + random.nextInt(greatest - least + 1);
    }

    private static int sortOf(int side) {
        return number(0, m.side(side).size() - 1);
    }

    /** Of a KIND, if there is one: random numbers alone would seldom meet two that fit. */
    private static int wayOf(int... kinds) {
        for (int tries = 0; tries < 12 && random.nextInt(25) != 0; tries++) {
            int w = random.nextInt(8);
            for (int kind : kinds) {
                if (m.numbers[w] != null && m.kinds[w] == kind) {
                    return w;
                }
            }
        }
        return number(0, 7);
    }

    private static String compare(String call, long got, long want) {
        used += 5;
        if (got != want) {
            return call + " answered " + got + ", the model " + want;
        }
        if (x.asked() != m.asked) {
            return call + ": asked() " + x.asked() + ", the model " + m.asked;
        }
        if (x.upper() != m.told.up.longValueExact() || x.lower() != m.told.low.longValueExact()) {
            return call + ": " + x.upper() + " / " + x.lower() + ", the model " + m.told.up + " / " + m.told.low;
        }
        if (x.digest() != m.digest()) {
            return call + ": digest() is not the model's";
        }
        return got == Model.FINDING || random.nextInt(8) == 0 ? comparedFindings(call) : "";
    }

    private static String comparedFindings(String call) {
        used += 6;
        if (x.finding() != m.finding) {
            return call + ": finding() " + x.finding() + ", the model " + m.finding;
        }
        for (int f = 1; f <= 5; f++) {
            if (x.findings(f) != m.findings(f)) {
                return call + ": findings(" + f + ") is not the model's";
            }
        }
        return "";
    }

    private static String oneCall() {
        int group = random.nextInt(100);
        if (group < 14) {
            return rowCall();
        }
        if (group < 28) {
            return textCall();
        }
        if (group < 48) {
            return wayCall();
        }
        return group < 82 ? pairCall() : menCall();
    }

    private static String rowCall() {
        int r = number(0, 5);
        int i = number(0, 12);
        switch (random.nextInt(6)) {
            case 0: {
                int n = random.nextInt(3) > 0 ? 10 : number(0, 40);
                return compare("row(" + r + ", " + n + ")", x.row(r, n), m.row(r, n));
            }
            case 1: case 2: {
                int v = random.nextInt(4) > 0 ? number(0, 13) : ODD[random.nextInt(ODD.length)];
                return compare("lay(" + r + ", " + i + ", " + v + ")", x.lay(r, i, v), m.lay(r, i, v));
            }
            case 3: {
                int to = number(0, 5);
                int j = number(0, 12);
                int n = number(0, 8);
                return compare("copy(" + r + ", " + i + ", " + to + ", " + j + ", " + n + ")",
                    x.copy(r, i, to, j, n), m.copy(r, i, to, j, n));
            }
            case 4:
                return compare("mean(" + r + ")", x.mean(r), m.mean(r));
            default:
                return random.nextInt(4) > 0 ? compare("mean(" + r + ")", x.mean(r), m.mean(r))
                    : compare("tear(" + r + ")", x.tear(r), m.tear(r));
        }
    }

    private static String someQuarrel() {
        StringBuilder signs = new StringBuilder();
        boolean oddSign = random.nextInt(4) == 0;
        String letters = "mo" + (random.nextBoolean() ? "m" : "") + (random.nextBoolean() ? "o" : "")
            + (random.nextInt(3) == 0 ? "m" : "") + (random.nextInt(3) == 0 ? "o" : "")
            + (random.nextInt(3) > 0 ? "v" : "") + (random.nextInt(3) > 0 ? "h" : "")
            + (random.nextInt(3) > 0 ? "l" : "") + (random.nextInt(3) > 0 ? "w" : "")
            + (random.nextInt(20) == 0 ? "m" : "") + (random.nextInt(20) == 0 ? "l" : "");
        for (char letter : letters.toCharArray()) {
            signs.append(" ".repeat(random.nextInt(5) == 0 ? 2 : random.nextInt(2))).append(letter);
            int wild = random.nextInt(40);
            if (letter == 'm' || letter == 'o') {
                signs.append(wild == 0 ? random.nextInt(100) : 1 + random.nextInt(9)).append(',');
                signs.append(random.nextInt(3) == 0 ? random.nextInt(100) : random.nextInt(10));
            } else if (letter == 'v') {
                signs.append(random.nextInt(4) == 0 ? random.nextInt(100) : 8 + random.nextInt(10));
            } else if (letter == 'h') {
                signs.append(wild == 0 ? random.nextInt(100) : 8 + random.nextInt(33));
            } else {
                signs.append(wild == 0 ? random.nextInt(100) : 1 + random.nextInt(letter == 'l' ? 10 : 12));
            }
        }
        if (oddSign) {
            int at = random.nextInt(signs.length());
            signs.setCharAt(at, "mo,vhlw 0195x".charAt(random.nextInt(13)));
        }
        return signs.length() > 60 ? signs.substring(0, 60) : signs.toString();
    }

    private static String textCall() {
        int t = number(0, 3);
        switch (random.nextInt(9)) {
            case 0: {
                int n = number(0, 60);
                return compare("text(" + t + ", " + n + ")", x.text(t, n), m.text(t, n));
            }
            case 1: {
                int i = number(0, 59);
                int v = ODD[random.nextInt(ODD.length)];
                return compare("put(" + t + ", " + i + ", " + v + ")", x.put(t, i, v), m.put(t, i, v));
            }
            case 2: case 3: case 4:
                return writtenQuarrel(t & 3, someQuarrel());
            case 5:
                return compare("fault(" + t + ")", x.fault(t), m.fault(t));
            case 6: {
                int what = number(0, 8);
                return compare("told(" + what + ")", x.told(what), m.told(what));
            }
            case 7: {
                int side = number(0, 1);
                int s = number(0, 2);
                int what = number(0, 1);
                return compare("sort(" + side + ", " + s + ", " + what + ")",
                    x.sort(side, s, what), m.sort(side, s, what));
            }
            default:
                return lawCall();
        }
    }

    private static String lawCall() {
        if (random.nextBoolean()) {
            int day = random.nextInt(4) > 0 ? number(1, 3) : number(1, 10);
            return compare("notice(" + day + ")", x.notice(day), m.notice(day));
        }
        int a = random.nextInt(3) == 0 ? 0 : number(0, 12);
        int wage = number(0, 12);
        return compare("judge(" + a + ", " + wage + ")", x.judge(a, wage), m.judge(a, wage));
    }

    private static String writtenQuarrel(int t, String signs) {
        used += 1 + signs.length();
        x.text(t, signs.length());
        m.text(t, signs.length());
        for (int i = 0; i < signs.length(); i++) {
            x.put(t, i, signs.charAt(i));
            m.put(t, i, signs.charAt(i));
        }
        String said = compare("fault of '" + signs + "'", x.fault(t), m.fault(t));
        return said.isEmpty() ? compare("quarrel of '" + signs + "'", x.quarrel(t), m.quarrel(t)) : said;
    }

    private static String wayCall() {
        int w = number(0, 7);
        int sort = number(0, 2);
        int day = number(1, random.nextBoolean() ? 5 : 10);
        switch (random.nextInt(8)) {
            case 0: {
                int kind = number(0, 4);
                return compare("way(" + w + ", " + kind + ")", x.way(w, kind), m.way(w, kind));
            }
            case 1: {
                int r = number(0, 5);
                return compare("setAll(" + w + ", " + sort + ", " + r + ")", x.setAll(w, sort, r), m.setAll(w, sort, r));
            }
            case 2:
                return compare("at(" + w + ", " + sort + ", " + day + ")", x.at(w, sort, day), m.at(w, sort, day));
            case 3:
                return compare("kind(" + w + ")", x.kind(w), m.kind(w));
            case 4: {
                int kind = number(1, 4);
                return compare("mark(" + w + ", " + kind + ")", x.mark(w, kind), m.mark(w, kind));
            }
            case 5:
                return filledWay(w & 7, random.nextInt(5) == 0 ? 3 : 1 + random.nextInt(2));
            default: {
                int v = number(0, random.nextInt(5) == 0 ? 100 : 13);
                return compare("set(" + w + ", " + sort + ", " + day + ", " + v + ")",
                    x.set(w, sort, day, v), m.set(w, sort, day, v));
            }
        }
    }

    /** A WAY with numbers throughout, few of them unlike, so that SORTS are alike for some days. */
    private static String filledWay(int w, int kind) {
        used += 31;
        x.way(w, kind);
        m.way(w, kind);
        int[] usual = new int[11];
        for (int day = 1; day <= 10; day++) {
            usual[day] = random.nextInt(kind == 1 ? 13 : 14);
        }
        for (int sort = 0; sort < 3; sort++) {
            for (int day = 1; day <= 10; day++) {
                int v = random.nextInt(3) > 0 ? usual[day] : random.nextInt(kind == 1 ? 13 : 14);
                x.set(w, sort, day, v);
                m.set(w, sort, day, v);
            }
        }
        return compare("kind(" + w + ")", x.kind(w), m.kind(w));
    }

    private static String pairCall() {
        int offer = wayOf(1);
        int take = random.nextInt(4) == 0 ? wayOf(2, 3) : wayOf(2);
        int side = number(0, 1);
        int s = sortOf(side & 1);
        int other = sortOf(1 - (side & 1));
        int owners = sortOf(1);
        int men = sortOf(0);
        String pair = "(" + offer + ", " + take + ", ";
        switch (random.nextInt(12)) {
            case 0:
                return compare("run" + pair + owners + ", " + men + ")",
                    x.run(offer, take, owners, men), m.run(offer, take, owners, men));
            case 1:
                return compare("worth" + pair + side + ", " + s + ")",
                    x.worth(offer, take, side, s), m.worth(offer, take, side, s));
            case 2: {
                int d = number(0, m.l);
                return compare("think" + pair + owners + ", " + d + ", " + side + ", " + other + ")",
                    x.think(offer, take, owners, d, side, other), m.think(offer, take, owners, d, side, other));
            }
            case 3: {
                int day = number(1, m.l + 1);
                return compare("end" + pair + day + ")", x.end(offer, take, day), m.end(offer, take, day));
            }
            case 4: {
                int way = side == 0 ? offer : take;
                return compare("best(" + way + ", " + side + ", " + s + ")", x.best(way, side, s), m.best(way, side, s));
            }
            case 5:
                return compare("rest" + pair + ")", x.rest(offer, take), m.rest(offer, take));
            case 6:
                return compare("answer" + pair + ")", x.answer(offer, take), m.answer(offer, take));
            case 7:
                return compare("reply" + pair + ")", x.reply(take, offer), m.reply(take, offer));
            case 8:
                return compare("longer" + pair + ")", x.longer(offer, take), m.longer(offer, take));
            case 9:
                return compare("lost" + pair + ")", x.lost(offer, take), m.lost(offer, take));
            case 10:
                return compare("morning" + pair + owners + ", " + men + ")",
                    x.morning(offer, take, owners, men), m.morning(offer, take, owners, men));
            default:
                return compare("law" + pair + ")", x.law(offer, take), m.law(offer, take));
        }
    }

    private static String menCall() {
        int kind = number(0, 5);
        int fund = random.nextInt(3) == 0 ? 0 : number(0, random.nextInt(3) == 0 ? 9999 : 500);
        int in = random.nextInt(3) == 0 ? 0 : number(0, random.nextInt(3) == 0 ? 999 : 150);
        int day = number(1, random.nextBoolean() ? 20 : 99);
        switch (random.nextInt(9)) {
            case 0: case 1: {
                int many = random.nextInt(5) == 0 ? 0 : number(0, 99);
                int left = number(0, random.nextInt(3) == 0 ? 99 : 15);
                int t = number(random.nextInt(8) == 0 ? 0 : 10, 100);
                return compare("men(" + kind + ", " + many + ", " + left + ", " + t + ")",
                    x.men(kind, many, left, t), m.men(kind, many, left, t));
            }
            case 2: {
                int w = wayOf(4);
                int sort = number(0, 2);
                int d = number(1, 10);
                return compare("leftBy(" + kind + ", " + w + ", " + sort + ", " + d + ")",
                    x.leftBy(kind, w, sort, d), m.leftBy(kind, w, sort, d));
            }
            case 3: case 4:
                return compare("gone(" + day + ", " + fund + ", " + in + ")",
                    x.gone(day, fund, in), m.gone(day, fund, in));
            case 5:
                return compare("all(" + fund + ", " + in + ")", x.all(fund, in), m.all(fund, in));
            case 6:
                return compare("turns(" + day + ")", x.turns(day), m.turns(day));
            case 7:
                return compare("fund(" + fund + ", " + in + ")", x.fund(fund, in), m.fund(fund, in));
            default: {
                int k = number(1, 9);
                int g = number(0, 99);
                int l = number(0, 99);
                int what = number(0, 4);
                String said = compare("count(" + what + ")", x.count(what), m.count(what));
                return said.isEmpty()
                    ? compare("pact(" + k + ", " + g + ", " + l + ")", x.pact(k, g, l), m.pact(k, g, l)) : said;
            }
        }
    }
}

import java.math.BigInteger;
import java.util.ArrayList;
import java.util.HashMap;
import java.util.HashSet;
import java.util.List;
import java.util.Map;
import java.util.Set;
import java.util.TreeSet;
import java.util.function.BiFunction;
import java.util.function.IntPredicate;
import java.util.function.IntUnaryOperator;
import java.util.regex.Matcher;
import java.util.regex.Pattern;
import java.util.stream.IntStream;

/** The document once more, slow and by other ways than the class: the same calls, the same answers. */
public final class Model {
    private static final int PUMP = -1;
    private static final int SHYER_THAN_ALL = 5000;

    static final class Town {
        int lines, mornings, law, odds, warm, chill, wears = PUMP;
        List<int[]> people = new ArrayList<>();
        List<int[]> hands = new ArrayList<>();
        List<int[]> frosts = new ArrayList<>();
        /** kind (0 gives, 1 sings), villager, morning */
        List<int[]> acts = new ArrayList<>();

        Town copy() {
            Town t = new Town();
            t.lines = lines;
            t.mornings = mornings;
            t.law = law;
            t.odds = odds;
            t.warm = warm;
            t.chill = chill;
            t.wears = wears;
            people.forEach(p -> t.people.add(p.clone()));
            hands.forEach(p -> t.hands.add(p.clone()));
            frosts.forEach(p -> t.frosts.add(p.clone()));
            acts.forEach(p -> t.acts.add(p.clone()));
            return t;
        }

        boolean joined(int a, int b) {
            return hands.stream().anyMatch(h -> h[0] == a && h[1] == b || h[0] == b && h[1] == a);
        }

        int weather(int m) {
            return chill + frosts.stream().filter(f -> f[1] == m).mapToInt(f -> f[0]).sum();
        }

        int afterSongs(int v, int m, int cold) {
            int c = cold;
            for (int[] a : acts) {
                if (a[0] == 1 && a[1] == v && a[2] == m) {
                    c = c < 10 ? 0 : c - 10;
                }
            }
            return c;
        }

        int[] firstColds() {
            return IntStream.range(0, people.size()).map(v -> afterSongs(v, 0, people.get(v)[0])).toArray();
        }

        int[] nextColds(int[] before, int holder, int m, boolean hard) {
            int[] after = new int[before.length];
            for (int v = 0; v < before.length; v++) {
                int c = before[v];
                if (v == holder) {
                    c = c > warm ? c - warm : 0;
                } else {
                    c += weather(m);
                    c += hard ? 5 : 0;
                    c = c > 99 ? 99 : c;
                }
                after[v] = afterSongs(v, m, c);
            }
            return after;
        }

        /** Hands from one to another, by walking over pairs until nothing is shorter; -1 where there is no way. */
        int distance(int a, int b) {
            int n = people.size();
            int[][] d = new int[n][n];
            for (int i = 0; i < n; i++) {
                for (int j = 0; j < n; j++) {
                    d[i][j] = i == j ? 0 : joined(i, j) ? 1 : 1000;
                }
            }
            for (int k = 0; k < n; k++) {
                for (int i = 0; i < n; i++) {
                    for (int j = 0; j < n; j++) {
                        d[i][j] = Math.min(d[i][j], d[i][k] + d[k][j]);
                    }
                }
            }
            return d[a][b] >= 1000 ? -1 : d[a][b];
        }

        int passTo(int[] colds, int holder) {
            List<Integer> can = new ArrayList<>();
            for (int v = 0; v < colds.length; v++) {
                boolean takes = colds[v] >= people.get(v)[1];
                boolean open = holder == PUMP
                        || colds[v] > colds[holder] && (law == 2 ? distance(holder, v) > 0 : joined(holder, v));
                if (takes && open) {
                    can.add(v);
                }
            }
            if (can.isEmpty()) {
                return PUMP;
            }
            if (holder != PUMP && law == 1) {
                return can.get(0);
            }
            boolean wantsWarm = holder != PUMP && law == 3;
            int aim = can.stream().mapToInt(v -> colds[v]).max().getAsInt();
            if (wantsWarm) {
                aim = can.stream().mapToInt(v -> colds[v]).min().getAsInt();
            }
            for (int v : can) {
                if (colds[v] == aim) {
                    return v;
                }
            }
            return PUMP;
        }

        int givenFrom(int m) {
            int to = PUMP;
            for (int[] a : acts) {
                if (a[0] == 0 && a[2] == m) {
                    to = a[1];
                }
            }
            return to;
        }
    }

    static final class Story {
        List<Integer> has = new ArrayList<>();
        List<Integer> passes = new ArrayList<>();
        List<int[]> colds = new ArrayList<>();

        int suffered(int v) {
            return colds.stream().mapToInt(c -> c[v]).sum();
        }

        int total() {
            return colds.stream().mapToInt(c -> IntStream.of(c).sum()).sum();
        }
    }

    static Story story(Town t, IntPredicate hard) {
        Story s = new Story();
        s.has.add(t.wears);
        s.colds.add(t.firstColds());
        for (int m = 1; m <= t.mornings; m++) {
            int from = s.has.get(m - 1);
            int given = t.givenFrom(m - 1);
            int passed = given == PUMP ? t.passTo(s.colds.get(m - 1), from) : PUMP;
            s.passes.add(passed);
            int to = given != PUMP ? given : passed != PUMP ? passed : from;
            s.has.add(to);
            s.colds.add(t.nextColds(s.colds.get(m - 1), to, m, hard.test(m)));
        }
        return s;
    }

    static Story story(Town t) {
        return story(t, m -> false);
    }

    private String tape = "";
    private Town town = null;
    private int fault = 0;
    private int faultPlace = -1;
    private final long[][] rows = new long[4][];
    private final int[] widths = new int[4];
    private final Map<Integer, Town> images = new HashMap<>();

    private boolean person(int v) {
        return town != null && v >= 0 && v < town.people.size();
    }

    private boolean day(int m) {
        return town != null && m >= 0 && m <= town.mornings;
    }

    private int people() {
        return town.people.size();
    }

    private Story now() {
        return story(town);
    }

    private static int bits(IntStream which) {
        return which.map(i -> 1 << i).sum();
    }

    private IntStream everyone() {
        return IntStream.range(0, people());
    }

    private IntStream days() {
        return IntStream.rangeClosed(0, town.mornings);
    }

    private static int firstBest(IntStream which, IntUnaryOperator of) {
        int best = -1;
        for (int i : which.toArray()) {
            if (best < 0 || of.applyAsInt(i) > of.applyAsInt(best)) {
                best = i;
            }
        }
        return best;
    }

    // ---- the text ----

    public int feed(int a, int b, int c, int d, int e) {
        if (tape.length() > 680) {
            return -1;
        }
        StringBuilder more = new StringBuilder(tape);
        for (int n : new int[] {a, b, c, d, e}) {
            for (int shift = 24; shift >= 0; shift -= 8) {
                more.append((char) (n >>> shift & 255));
            }
        }
        tape = more.toString();
        return tape.length();
    }

    public int end(int n) {
        if (n < 0 || n > tape.length()) {
            return -1;
        }
        tape = tape.substring(0, n);
        return n;
    }

    private static final class Bad extends Exception {
        private static final long serialVersionUID = 1L;
        final int what;
        final int where;

        Bad(int what, int where) {
            this.what = what;
            this.where = where;
        }
    }

    private record Token(String text, int place) {
    }

    private static final Pattern TOKEN = Pattern.compile("[a-z]+|[0-9]+|[\\x00-\\xff]");

    private List<Token> tokens() {
        List<Token> found = new ArrayList<>();
        Matcher m = TOKEN.matcher(tape);
        while (m.find()) {
            if (!m.group().equals(" ") && !m.group().equals("\n")) {
                found.add(new Token(m.group(), m.start()));
            }
        }
        found.add(new Token("", tape.length()));
        return found;
    }

    private List<Token> left;

    private void word(String w) throws Bad {
        if (!left.get(0).text.equals(w)) {
            throw new Bad(1, left.get(0).place);
        }
        left.remove(0);
    }

    private int number(IntPredicate good) throws Bad {
        Token t = left.get(0);
        if (!t.text.matches("[0-9]+")) {
            throw new Bad(1, t.place);
        }
        BigInteger n = new BigInteger(t.text);
        int v = n.bitLength() > 20 ? 1 << 20 : n.intValue();
        if (!good.test(v)) {
            throw new Bad(2, t.place);
        }
        left.remove(0);
        return v;
    }

    private int number(int least, int most) throws Bad {
        return number(v -> v >= least && v <= most);
    }

    private void room(int has, int most) throws Bad {
        if (has == most) {
            throw new Bad(3, left.get(0).place);
        }
    }

    private Town readTown() throws Bad {
        Town t = new Town();
        left = tokens();
        while (!left.get(0).text.isEmpty()) {
            String head = left.get(0).text;
            if (head.equals("green") != (t.lines == 0)) {
                throw new Bad(1, left.get(0).place);
            }
            switch (head) {
                case "green" -> {
                    word("green");
                    word("mornings");
                    t.mornings = number(1, 14);
                    word("law");
                    t.law = number(0, 3);
                    word("odds");
                    t.odds = number(0, 10);
                    word("warm");
                    t.warm = number(0, 40);
                    word("chill");
                    t.chill = number(0, 20);
                }
                case "villager" -> {
                    room(t.people.size(), 7);
                    word("villager");
                    word("cold");
                    int cold = number(0, 60);
                    word("shy");
                    int shy = number(0, 99);
                    if (left.get(0).text.equals("wears")) {
                        if (t.wears != PUMP) {
                            throw new Bad(2, left.get(0).place);
                        }
                        word("wears");
                        t.wears = t.people.size();
                    }
                    t.people.add(new int[] {cold, shy});
                }
                case "hand" -> {
                    room(t.hands.size(), 12);
                    word("hand");
                    int a = number(0, t.people.size() - 1);
                    int b = number(v -> v < t.people.size() && v != a);
                    t.hands.add(new int[] {a, b});
                }
                case "frost" -> {
                    room(t.frosts.size(), 8);
                    word("frost");
                    int by = number(1, 40);
                    word("at");
                    t.frosts.add(new int[] {by, number(1, 14)});
                }
                default -> throw new Bad(1, left.get(0).place);
            }
            word(";");
            t.lines++;
        }
        return t;
    }

    public int green() {
        try {
            Town t = readTown();
            fault = 0;
            faultPlace = -1;
            tape = "";
            town = t.lines == 0 ? null : t;
            return t.lines;
        } catch (Bad bad) {
            fault = bad.what;
            faultPlace = bad.where;
            return -4;
        }
    }

    public int fault(int what) {
        return what == 0 ? fault : what == 1 ? faultPlace : -1;
    }

    // ---- the green ----

    public int villager(int villager, int what) {
        return person(villager) && (what == 0 || what == 1) ? town.people.get(villager)[what] : -2;
    }

    public int hands(int villager) {
        return person(villager) ? bits(everyone().filter(v -> town.joined(v, villager))) : -2;
    }

    public int far(int villager, int other) {
        return person(villager) && person(other) ? town.distance(villager, other) : -2;
    }

    public int reach(int villager) {
        return person(villager) ? bits(everyone().filter(v -> town.distance(villager, v) >= 0)) : -2;
    }

    private boolean isCover(int set) {
        return everyone().allMatch(v -> (set >> v & 1) == 1
                || everyone().anyMatch(w -> (set >> w & 1) == 1 && town.joined(v, w)));
    }

    public int covers() {
        if (town == null) {
            return -2;
        }
        return IntStream.range(0, 1 << people()).filter(this::isCover).boxed()
                .min((a, b) -> Integer.bitCount(a) != Integer.bitCount(b)
                        ? Integer.bitCount(a) - Integer.bitCount(b) : a - b).get();
    }

    public int cover() {
        return town == null ? -2 : Integer.bitCount(covers());
    }

    public int has(int morning) {
        return day(morning) ? now().has.get(morning) : -2;
    }

    public int cold(int villager, int morning) {
        return person(villager) && day(morning) ? now().colds.get(morning)[villager] : -2;
    }

    public int takes(int morning) {
        return day(morning) ? bits(everyone().filter(v -> takes(now(), v, morning))) : -2;
    }

    private boolean takes(Story s, int v, int m) {
        return s.colds.get(m)[v] >= town.people.get(v)[1];
    }

    public int coldest(int morning) {
        return day(morning) ? firstBest(everyone(), v -> now().colds.get(morning)[v]) : -2;
    }

    public int all(int morning) {
        return day(morning) ? IntStream.of(now().colds.get(morning)).sum() : -2;
    }

    public int passes(int morning) {
        return day(morning) && morning < town.mornings ? now().passes.get(morning) : -2;
    }

    public int worn(int villager) {
        return person(villager) ? (int) now().has.stream().filter(h -> h == villager).count() : -2;
    }

    public int gets(int villager) {
        return person(villager) ? now().has.indexOf(villager) : -2;
    }

    /** Runs of one and the same, as pairs of who and how long. */
    private List<int[]> runs() {
        List<int[]> found = new ArrayList<>();
        for (int h : now().has) {
            if (found.isEmpty() || found.get(found.size() - 1)[0] != h) {
                found.add(new int[] {h, 0});
            }
            found.get(found.size() - 1)[1]++;
        }
        return found;
    }

    public int keeps(int villager) {
        return person(villager)
                ? runs().stream().filter(r -> r[0] == villager).mapToInt(r -> r[1]).max().orElse(0) : -2;
    }

    public int pump() {
        return town == null ? -2 : (int) now().has.stream().filter(h -> h == PUMP).count();
    }

    public int right() {
        if (town == null) {
            return -2;
        }
        Story s = now();
        return bits(days().filter(m -> s.has.get(m) != PUMP
                && s.colds.get(m)[s.has.get(m)] == IntStream.of(s.colds.get(m)).max().getAsInt()));
    }

    public int stops() {
        if (town == null) {
            return -2;
        }
        List<int[]> runs = runs();
        return town.mornings + 1 - runs.get(runs.size() - 1)[1];
    }

    public int round() {
        return town == null ? -2 : bits(everyone().filter(v -> now().has.contains(v)));
    }

    public int suffers(int villager) {
        return person(villager) ? now().suffered(villager) : -2;
    }

    public int sum() {
        return town == null ? -2 : now().total();
    }

    public int worst() {
        return town == null ? -2 : firstBest(everyone(), v -> now().suffered(v));
    }

    public int freezes(int villager, int n) {
        if (!person(villager) || n < 0 || n > 99) {
            return -2;
        }
        return days().filter(m -> now().colds.get(m)[villager] >= n).findFirst().orElse(-1);
    }

    public int blue() {
        return town == null ? -2
                : firstBest(everyone(), v -> now().colds.stream().mapToInt(c -> c[v]).max().getAsInt());
    }

    public int alike(int morning) {
        if (!day(morning)) {
            return -2;
        }
        int[] c = now().colds.get(morning);
        return (int) everyone().mapToLong(v -> everyone().filter(w -> w < v && c[v] == c[w] && town.joined(v, w)).count())
                .sum();
    }

    public int colder(int villager, int morning) {
        if (!person(villager) || !day(morning)) {
            return -2;
        }
        int[] c = now().colds.get(morning);
        return bits(everyone().filter(v -> c[v] > c[villager]));
    }

    public int near(int morning) {
        if (!day(morning)) {
            return -2;
        }
        Story s = now();
        int h = s.has.get(morning);
        return bits(everyone().filter(v -> takes(s, v, morning) && (h == PUMP || town.joined(h, v))));
    }

    public int warmest(int morning) {
        return day(morning) ? firstBest(everyone(), v -> -now().colds.get(morning)[v]) : -2;
    }

    public int frost(int morning) {
        return day(morning) && morning != 0 ? town.weather(morning) : -2;
    }

    public int jumps() {
        return town == null ? -2 : runs().size() - 1;
    }

    public int longest() {
        return town == null ? -2 : runs().stream().mapToInt(r -> r[1]).max().getAsInt();
    }

    public int fair() {
        if (town == null) {
            return -2;
        }
        TreeSet<Integer> all = new TreeSet<>();
        everyone().forEach(v -> all.add(now().suffered(v)));
        return all.isEmpty() ? 0 : all.last() - all.first();
    }

    public int rises(int villager) {
        if (!person(villager)) {
            return -2;
        }
        Story s = now();
        return (int) days().skip(1).filter(m -> s.colds.get(m)[villager] > s.colds.get(m - 1)[villager]).count();
    }

    public int waits(int villager) {
        if (!person(villager)) {
            return -2;
        }
        Story s = now();
        return (int) days().takeWhile(m -> s.has.get(m) != villager).filter(m -> takes(s, villager, m)).count();
    }

    public int returns(int villager) {
        if (!person(villager)) {
            return -2;
        }
        return Math.max(0, (int) runs().stream().filter(r -> r[0] == villager).count() - 1);
    }

    // ---- what if ----

    private int sufferedWithShy(int villager, int shy) {
        Town t = town.copy();
        t.people.get(villager)[1] = shy;
        return story(t).suffered(villager);
    }

    public int lies(int villager) {
        return person(villager) ? firstBest(IntStream.rangeClosed(0, 99), s -> -sufferedWithShy(villager, s)) : -2;
    }

    public int gains(int villager) {
        return person(villager) ? now().suffered(villager) - sufferedWithShy(villager, lies(villager)) : -2;
    }

    public int liars() {
        return town == null ? -2 : bits(everyone().filter(v -> gains(v) > 0));
    }

    public int start() {
        if (town == null) {
            return -2;
        }
        IntUnaryOperator sum = v -> {
            Town t = town.copy();
            t.wears = v;
            return story(t).total();
        };
        int best = firstBest(everyone(), v -> -sum.applyAsInt(v));
        return best >= 0 && sum.applyAsInt(best) < now().total() ? best : -1;
    }

    public int join() {
        if (town == null) {
            return -2;
        }
        IntUnaryOperator sum = h -> {
            Town t = town.copy();
            t.hands.add(new int[] {h / 10, h % 10});
            return story(t).total();
        };
        int best = firstBest(IntStream.range(0, 67).filter(h -> h / 10 < h % 10 && h % 10 < people())
                .filter(h -> !town.joined(h / 10, h % 10)), h -> -sum.applyAsInt(h));
        return best >= 0 && sum.applyAsInt(best) < now().total() ? best : -1;
    }

    private boolean plannable(int n) {
        return town != null && n >= 1 && n <= 4 && n <= town.mornings;
    }

    /** Every row of n mornings in order, of these the ones that are a plan, with their worth as the last number. */
    private List<int[]> plansOf(int n) {
        int kinds = people() + 1;
        int many = 1;
        for (int i = 0; i < n; i++) {
            many *= kinds;
        }
        List<int[]> found = new ArrayList<>();
        for (int code = 0; code < many; code++) {
            int[] row = new int[n + 2];
            int rest = code;
            for (int k = n; k >= 1; k--) {
                row[k] = rest % kinds - 1;
                rest /= kinds;
            }
            row[0] = town.wears;
            boolean good = true;
            for (int k = 1; k <= n; k++) {
                int a = row[k - 1];
                int b = row[k];
                good &= a == b || a == PUMP || b != PUMP && town.joined(a, b);
            }
            if (good) {
                int[] colds = town.firstColds();
                int worth = IntStream.of(colds).sum();
                for (int k = 1; k <= n; k++) {
                    colds = town.nextColds(colds, row[k], k, false);
                    worth += IntStream.of(colds).sum();
                }
                row[n + 1] = worth;
                found.add(row);
            }
        }
        return found;
    }

    public int plan(int n) {
        return plannable(n) ? plansOf(n).stream().mapToInt(r -> r[n + 1]).min().getAsInt() : -2;
    }

    public int planned(int n, int k) {
        if (!plannable(n) || k < 0 || k > n) {
            return -2;
        }
        int least = plan(n);
        return plansOf(n).stream().filter(r -> r[n + 1] == least).findFirst().get()[k];
    }

    public int plans(int n) {
        if (!plannable(n)) {
            return -2;
        }
        int least = plan(n);
        return (int) plansOf(n).stream().filter(r -> r[n + 1] == least).count();
    }

    // ---- seen ----

    private int refusal(int slot, boolean who) {
        if (slot < 0 || slot > 3 || !who) {
            return -2;
        }
        if (rows[slot] == null) {
            return -6;
        }
        if (rows[slot].length % 2 == 1) {
            return -2;
        }
        for (int i = 0; i < rows[slot].length; i++) {
            long v = rows[slot][i];
            if (i % 2 == 0 && (v < 0 || v > town.mornings) || i % 2 == 1 && (v < -1 || v >= people())) {
                return -2;
            }
        }
        return 0;
    }

    private boolean fits(int slot, Story s) {
        for (int i = 0; i < rows[slot].length; i += 2) {
            if (s.has.get((int) rows[slot][i]) != rows[slot][i + 1]) {
                return false;
            }
        }
        return true;
    }

    private Map<Integer, Story> fitting(int slot, int villager) {
        Map<Integer, Story> found = new HashMap<>();
        for (int c = 0; c <= 60; c++) {
            Town t = town.copy();
            t.people.get(villager)[0] = c;
            Story s = story(t);
            if (fits(slot, s)) {
                found.put(c, s);
            }
        }
        return found;
    }

    private int seen(int slot, int villager, BiFunction<Integer, Integer, Integer> answer) {
        int refused = refusal(slot, person(villager));
        return refused != 0 ? refused : answer.apply(slot, villager);
    }

    public int colds(int slot, int villager) {
        return seen(slot, villager, (s, v) -> fitting(s, v).size());
    }

    public int low(int slot, int villager) {
        return seen(slot, villager, (s, v) -> fitting(s, v).keySet().stream().mapToInt(c -> c).min().orElse(-1));
    }

    public int high(int slot, int villager) {
        return seen(slot, villager, (s, v) -> fitting(s, v).keySet().stream().mapToInt(c -> c).max().orElse(-1));
    }

    private int[] leftByMorning(int slot, int villager) {
        Map<Integer, Story> found = fitting(slot, villager);
        return days().map(m -> {
            Map<Integer, Integer> parts = new HashMap<>();
            found.values().forEach(s -> parts.merge(s.has.get(m), 1, Integer::sum));
            return parts.values().stream().mapToInt(n -> n).max().orElse(0);
        }).toArray();
    }

    public int ask(int slot, int villager) {
        return seen(slot, villager, (s, v) -> {
            int[] left = leftByMorning(s, v);
            int best = firstBest(days(), m -> -left[m]);
            return left[best] < fitting(s, v).size() ? best : -1;
        });
    }

    public int leaves(int slot, int villager) {
        return seen(slot, villager, (s, v) -> IntStream.of(leftByMorning(s, v)).min().getAsInt());
    }

    private Town byLaw(int law) {
        Town t = town.copy();
        t.law = law;
        return t;
    }

    public int laws(int slot) {
        int refused = refusal(slot, town != null);
        return refused != 0 ? refused : bits(IntStream.range(0, 4).filter(l -> fits(slot, story(byLaw(l)))));
    }

    public int by(int law) {
        return town != null && law >= 0 && law <= 3 ? story(byLaw(law)).total() : -2;
    }

    public int law() {
        return town == null ? -2 : firstBest(IntStream.range(0, 4), l -> -by(l));
    }

    // ---- sets, refusals ----

    public int worth(int set) {
        if (town == null || set < 0 || set >= 1 << people()) {
            return -2;
        }
        Town t = town.copy();
        everyone().filter(v -> (set >> v & 1) == 0).forEach(v -> {
            t.people.get(v)[1] = SHYER_THAN_ALL;
            t.wears = t.wears == v ? PUMP : t.wears;
            t.acts.removeIf(a -> a[0] == 0 && a[1] == v);
        });
        return (int) story(t).has.stream().filter(h -> h != PUMP).count();
    }

    private int[] shareSum(int villager, int set, Set<Integer> out, Map<Integer, Integer> worths) {
        if (out.isEmpty()) {
            return new int[] {0, 1};
        }
        int sum = 0;
        int orders = 0;
        for (int v : new ArrayList<>(out)) {
            Set<Integer> rest = new HashSet<>(out);
            rest.remove(v);
            int[] more = shareSum(villager, set | 1 << v, rest, worths);
            int own = v == villager ? worths.get(set | 1 << v) - worths.get(set) : 0;
            sum += more[0] + own * more[1];
            orders += more[1];
        }
        return new int[] {sum, orders};
    }

    private static long lowest(BigInteger above, BigInteger below, int what) {
        BigInteger g = above.gcd(below);
        return (what == 0 ? above : below).divide(g).longValueExact();
    }

    public int share(int villager, int what) {
        if (!person(villager) || what < 0 || what > 1) {
            return -1000000;
        }
        Set<Integer> out = new HashSet<>();
        everyone().forEach(out::add);
        Map<Integer, Integer> worths = new HashMap<>();
        IntStream.range(0, 1 << people()).forEach(s -> worths.put(s, worth(s)));
        int[] f = shareSum(villager, 0, out, worths);
        return (int) lowest(BigInteger.valueOf(f[0]), BigInteger.valueOf(f[1]), what);
    }

    public int wins(int villager, int other, int refuses, int otherRefuses) {
        boolean good = person(villager) && person(other) && villager != other && (refuses | 1) == 1
                && (otherRefuses | 1) == 1;
        if (!good) {
            return -10000;
        }
        Town t = town.copy();
        t.people.get(villager)[1] += refuses * SHYER_THAN_ALL;
        t.people.get(other)[1] += otherRefuses * SHYER_THAN_ALL;
        return 1000 - story(t).suffered(villager) + refuses * 20;
    }

    public int rests(int villager, int other) {
        if (!person(villager) || !person(other) || villager == other) {
            return -2;
        }
        int found = 0;
        int[][] pairs = {{0, 0, 1}, {1, 0, 2}, {0, 1, 4}, {1, 1, 8}};
        for (int[] p : pairs) {
            boolean first = wins(villager, other, p[0] ^ 1, p[1]) > wins(villager, other, p[0], p[1]);
            boolean second = wins(other, villager, p[1] ^ 1, p[0]) > wins(other, villager, p[1], p[0]);
            found += first || second ? 0 : p[2];
        }
        return found;
    }

    // ---- chance ----

    private boolean chanced(int morning, int what) {
        return day(morning) && morning >= 1 && morning <= 8 && (what == 0 || what == 1);
    }

    private long expected(int morning, int what, BiFunction<Story, Integer, Integer> of) {
        BigInteger above = BigInteger.ZERO;
        for (int w = 0; w < 1 << morning; w++) {
            int mask = w;
            Story s = story(town, m -> m <= morning && (mask >> m - 1 & 1) == 1);
            BigInteger weight = BigInteger.valueOf(of.apply(s, morning));
            for (int m = 1; m <= morning; m++) {
                weight = weight.multiply(BigInteger.valueOf((mask >> m - 1 & 1) == 1 ? town.odds : 10 - town.odds));
            }
            above = above.add(weight);
        }
        return lowest(above, BigInteger.TEN.pow(morning), what);
    }

    public int chance(int villager, int morning, int what) {
        return person(villager) && chanced(morning, what)
                ? (int) expected(morning, what, (s, m) -> s.has.get(m) == villager ? 1 : 0) : -2;
    }

    public long mean(int morning, int what) {
        return chanced(morning, what)
                ? expected(morning, what, (s, m) -> IntStream.of(s.colds.get(m)).sum()) : -2;
    }

    // ---- acts ----

    public int gives(int villager, int morning) {
        if (!person(villager) || !day(morning) || morning == town.mornings) {
            return -2;
        }
        if (town.acts.size() == 30) {
            return -5;
        }
        town.acts.add(new int[] {0, villager, morning});
        return has(town.mornings);
    }

    public int sings(int villager, int morning) {
        if (!person(villager) || !day(morning)) {
            return -2;
        }
        if (town.acts.size() == 30) {
            return -5;
        }
        town.acts.add(new int[] {1, villager, morning});
        return cold(villager, morning);
    }

    public int undo() {
        if (town == null) {
            return -2;
        }
        if (town.acts.isEmpty()) {
            return -5;
        }
        town.acts.remove(town.acts.size() - 1);
        return town.acts.size();
    }

    public int anew() {
        if (town == null) {
            return -2;
        }
        int were = town.acts.size();
        town.acts.clear();
        return were;
    }

    private Set<Integer> hardOf(int seed) {
        Set<Integer> hard = new HashSet<>();
        BigInteger x = BigInteger.valueOf(seed);
        for (int m = 1; m <= town.mornings; m++) {
            x = x.multiply(new BigInteger("1103515245")).add(new BigInteger("12345")).mod(new BigInteger("2147483648"));
            if (x.shiftRight(16).mod(BigInteger.TEN).intValue() < town.odds) {
                hard.add(m);
            }
        }
        return hard;
    }

    public int drawn(int seed, int what) {
        if (town == null || seed < 0 || seed > 2000000000 || what < 0 || what > 1) {
            return -2;
        }
        Set<Integer> hard = hardOf(seed);
        return what == 0 ? bits(hard.stream().mapToInt(m -> m)) : story(town, hard::contains).has.get(town.mornings);
    }

    public int luck(int seed, int n, int villager) {
        if (!person(villager) || seed < 0 || seed > 2000000000 || n < 1 || n > 20) {
            return -2;
        }
        return (int) IntStream.range(seed, seed + n)
                .filter(s -> story(town, hardOf(s)::contains).has.contains(villager)).count();
    }

    public int rate(int villager, int n) {
        if (!person(villager) || n < 0 || n > 99) {
            return -2;
        }
        if (!town.acts.isEmpty()) {
            return -5;
        }
        int was = town.people.get(villager)[1];
        town.people.get(villager)[1] = n;
        return was;
    }

    public int count(int what) {
        Town t = town == null ? new Town() : town;
        int have = 0;
        for (long[] row : rows) {
            have += row == null ? 0 : 1;
        }
        int[] answers = {t.mornings, t.law, t.odds, t.warm, t.chill, t.people.size(), t.hands.size(), t.frosts.size(),
            t.acts.size(), t.lines, tape.length(), have};
        return what >= 0 && what < answers.length ? answers[what] : -1;
    }

    public int image(int k) {
        if (k < 0 || k > 2) {
            return -2;
        }
        images.put(k, town == null ? null : town.copy());
        return 0;
    }

    public int back(int k) {
        if (k < 0 || k > 2) {
            return -2;
        }
        if (!images.containsKey(k)) {
            return -6;
        }
        Town t = images.get(k);
        town = t == null ? null : t.copy();
        return 0;
    }

    public int row(int slot, int width, int n) {
        if (slot < 0 || slot > 3 || width < 0 || width > 3 || n > 60) {
            return -2;
        }
        if (n < 0) {
            return -3;
        }
        rows[slot] = new long[n];
        widths[slot] = width;
        return 0;
    }

    public int write(int slot, int i, long v) {
        if (slot < 0 || slot > 3) {
            return -2;
        }
        if (rows[slot] == null) {
            return -6;
        }
        if (i < 0 || i >= rows[slot].length) {
            return -7;
        }
        int away = 64 - (8 << widths[slot]);
        rows[slot][i] = v << away >> away;
        return 0;
    }

    public int paste(int slot, int i, int to, int k, int n) {
        if (slot < 0 || slot > 3 || to < 0 || to > 3) {
            return -2;
        }
        if (rows[slot] == null || rows[to] == null) {
            return -6;
        }
        if (widths[slot] != widths[to]) {
            return -8;
        }
        if (i < 0 || k < 0 || n < 0 || i > rows[slot].length - n || k > rows[to].length - n) {
            return -7;
        }
        long[] were = rows[slot].clone();
        for (int j = 0; j < n; j++) {
            rows[to][k + j] = were[i + j];
        }
        return 0;
    }
}

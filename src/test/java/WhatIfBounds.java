import java.math.BigInteger;
import java.util.function.IntUnaryOperator;
import java.util.stream.IntStream;

/** Boundaries of promises 41 to 62, 67 and 68, and of terms IV to VIII. */
final class WhatIfBounds {
    private static final int NO = -2;
    private static final int LOW = Integer.MIN_VALUE;
    private static final int HIGH = Integer.MAX_VALUE;
    private static final int[] NO_VILLAGERS = {-1, 7, 8, 32, LOW, HIGH};

    private WhatIfBounds() {
    }

    static void run() {
        liesAtBounds();
        liesOneByOne();
        allLie();
        startAtBounds();
        joinAtBounds();
        plansAtBounds();
        plansOfAll();
        coldsAtBounds();
        rowsAtBounds();
        numbersNoneSuch();
        seenRefused();
        lawsAtBounds();
        worthAtBounds();
        shareAtBounds();
        restsAtBounds();
        winsAtBounds();
        chanceAtBounds();
        hardAtBounds();
        drawnAtBounds();
        luckAtBounds();
    }

    private static long[] over(int from, int to, IntUnaryOperator call) {
        return IntStream.rangeClosed(from, to).mapToLong(i -> call.applyAsInt(i)).toArray();
    }

    private static void due(int promise, String call, long got, long want) {
        Check.due(promise, call, got, want);
    }

    private static void due(int promise, String call, long[] got, long... want) {
        Check.due(promise, call, got, want);
    }

    // ---- 41 to 45 ----

    private static void liesAtBounds() {
        WaistcoatGreen full = Check.told(Texts.FULL);
        for (int v : NO_VILLAGERS) {
            due(41, "lies(" + v + ")", full.lies(v), NO);
            due(42, "gains(" + v + ")", full.gains(v), NO);
        }
        // Told 0 he has it on 1, and on 2, of a frost, the other one; told 1 he has it on 2 as the first of two alike.
        WaistcoatGreen one = Check.told(Texts.green(2, 0, 0, 40, 1) + Texts.villager(0, 0) + Texts.villager(0, 1)
                + "hand 0 1;frost 40 at 2;");
        due(41, "told 1 in place of 0: 0 1 0 for 0 0 41", one.lies(0), 1);
        due(42, "40 less", one.gains(0), 40);
        due(43, "liars()", one.liars(), 1);
        due(41, "the other one told 0: then the first has it on 1, and he on 2", one.lies(1), 0);
        due(42, "no less", one.gains(1), 0);
        // Told 98 or less he has it on 2 and 4: 58 98 58 99 59. Told 99 on 3 and 4: 58 98 99 59 19.
        WaistcoatGreen most = Check.told(Texts.green(4, 0, 0, 40, 20) + Texts.villager(60, 0) + Texts.villager(58, 98)
                + "hand 0 1;frost 20 at 1;frost 40 at 2;frost 38 at 3;");
        due(41, "told 99", most.lies(1), 99);
        due(42, "39 less", most.gains(1), 39);
        most.rate(1, 99);
        due(41, "told 99 as it is", most.lies(1), 99);
        due(42, "no less than as told", most.gains(1), 0);
        due(43, "no liar by 0", most.liars() & 2, 0);
        WaistcoatGreen same = Check.told(Texts.green(1, 0, 0, 40, 20) + Texts.wearer(60, 99) + Texts.villager(60, 50));
        due(41, "all do the same: the least", over(0, 1, v -> same.lies(v)), 0, 0);
        due(42, "none less", over(0, 1, v -> same.gains(v)), 0, 0);
        due(43, "nobody lies", same.liars(), 0);
        WaistcoatGreen alone = Check.told(Texts.LEAST + Texts.villager(0, 99));
        due(41, "of one who is never cold", alone.lies(0), 0);
        due(42, "of one who is never cold", alone.gains(0), 0);
        WaistcoatGreen first = Check.told(Texts.green(2, 0, 0, 20, 10) + Texts.wearer(0, 0) + Texts.villager(15, 15)
                + "hand 0 1;frost 40 at 2;");
        due(41, "one more than he is on morning 0: 15 25 5 for 15 0 50", first.lies(1), 16);
        due(42, "20 less", first.gains(1), 20);
        WaistcoatGreen little = Check.told(Texts.green(1, 0, 0, 0, 1) + Texts.villager(0, 1));
        due(42, "less by 1", little.gains(0), 1);
        due(43, "liar by 1", little.liars(), 1);
    }

    /** Told each shyness in turn: the first by which he has suffered least is his lie. */
    private static void liesOneByOne() {
        String four = Texts.green(9, 0, 0, 17, 6) + Texts.villager(20, 10) + Texts.villager(30, 25) + Texts.villager(25, 40)
                + Texts.villager(5, 0) + "hand 0 1;hand 1 2;hand 2 3;frost 17 at 2;frost 33 at 6;";
        String[] texts = {Texts.FULL, four, four.replace("law 0", "law 1"), four.replace("law 0", "law 2"),
            four.replace("law 0", "law 3"), Texts.FULL.replace("shy 99", "shy 40"), four.replace("warm 17", "warm 31")};
        int several = 0;
        for (String text : texts) {
            WaistcoatGreen x = Check.told(text);
            for (int v = 0; v < x.count(5); v++) {
                int now = x.suffers(v);
                int shy = x.villager(v, 1);
                int lie = 0;
                int least = HIGH;
                int first = 0;
                for (int n = 0; n <= 99; n++) {
                    x.rate(v, n);
                    first = n == 0 ? x.suffers(v) : first;
                    several += x.suffers(v) < first && x.suffers(v) > least ? 1 : 0;
                    if (x.suffers(v) < least) {
                        least = x.suffers(v);
                        lie = n;
                    }
                }
                x.rate(v, shy);
                due(41, "lies(" + v + ") one by one", x.lies(v), lie);
                due(42, "gains(" + v + ") one by one", x.gains(v), now - least);
                due(43, "liars() one by one", x.liars() >> v & 1, now > least ? 1 : 0);
            }
        }
        due(41, "a later one is better than the first, but not the best, at times", several > 0 ? 1 : 0, 1);
    }

    private static void allLie() {
        WaistcoatGreen x = Check.told(Texts.green(1, 0, 0, 10, 5) + Texts.villager(10, 99).repeat(7));
        due(41, "lies of seven", over(-1, 7, v -> x.lies(v)), NO, 0, 0, 0, 0, 0, 0, 0, NO);
        due(42, "gains of seven: 10 0 for 10 15", over(-1, 7, v -> x.gains(v)), NO, 15, 15, 15, 15, 15, 15, 15, NO);
        due(43, "all seven are liars", x.liars(), 127);
        due(6, "shy stays", over(0, 6, v -> x.villager(v, 1)), 99, 99, 99, 99, 99, 99, 99);
        due(43, "nobody is there", Check.told(Texts.LEAST).liars(), 0);
        x.gives(6, 0);
        due(42, "what is given is as now", over(0, 6, v -> x.gains(v)), 0, 0, 0, 0, 0, 0, 0);
    }

    private static void startAtBounds() {
        due(44, "nobody is there", Check.told(Texts.MOST).start(), -1);
        String dry = Texts.green(1, 0, 0, 10, 5);
        WaistcoatGreen alike = Check.told(dry + Texts.villager(10, 99).repeat(7));
        due(44, "the first of seven", alike.start(), 0);
        WaistcoatGreen last = Check.told(dry + Texts.villager(0, 99).repeat(6) + Texts.villager(1, 99));
        due(44, "the last of seven: 1 0 for 1 6", last.start(), 6);
        WaistcoatGreen has = Check.told(dry + Texts.villager(10, 99).repeat(6) + Texts.wearer(10, 99));
        due(44, "as much as now is not less", has.start(), -1);
        alike.gives(3, 0);
        due(44, "given at once it is all the same", alike.start(), -1);
        WaistcoatGreen none = Check.told(Texts.green(14, 0, 0, 0, 0) + Texts.villager(10, 99).repeat(2));
        due(44, "no less by anybody", none.start(), -1);
        WaistcoatGreen worse = Check.told(Texts.green(1, 0, 0, 40, 0) + Texts.villager(10, 99) + Texts.wearer(20, 99));
        due(44, "more than now", worse.start(), -1);
        due(12, "who has it stays", worse.has(0), 1);
    }

    private static void joinAtBounds() {
        due(45, "nobody is there", Check.told(Texts.MOST).join(), -1);
        due(45, "one alone", Check.told(Texts.ONE).join(), -1);
        String dry = Texts.green(1, 0, 0, 40, 0);
        WaistcoatGreen last = Check.told(dry + Texts.villager(0, 99).repeat(5) + Texts.wearer(0, 0) + Texts.villager(9, 9));
        due(45, "the last two", last.join(), 56);
        WaistcoatGreen first = Check.told(dry + Texts.wearer(0, 0) + Texts.villager(9, 9) + Texts.villager(9, 9));
        due(45, "the first two, of two such", first.join(), 1);
        WaistcoatGreen ends = Check.told(dry + Texts.villager(9, 9) + Texts.villager(0, 99).repeat(5) + Texts.wearer(0, 0));
        due(45, "the lesser one ahead", ends.join(), 6);
        WaistcoatGreen there = Check.told(dry + Texts.wearer(0, 0) + Texts.villager(9, 9) + "hand 1 0;");
        due(45, "there is that one", there.join(), -1);
        WaistcoatGreen shy = Check.told(dry + Texts.wearer(0, 0) + Texts.villager(9, 10));
        due(45, "as much as now is not less", shy.join(), -1);
        WaistcoatGreen ring = Check.told(dry + Texts.wearer(0, 0) + Texts.villager(5, 5) + Texts.villager(9, 9) + "hand 0 1;");
        due(45, "more by another one", ring.join(), 2);
        due(7, "hands stay", over(0, 2, v -> ring.hands(v)), 2, 1, 0);
        WaistcoatGreen two = Check.told(Texts.green(2, 0, 0, 40, 0) + Texts.wearer(0, 0) + Texts.villager(5, 5)
                + Texts.villager(40, 40) + Texts.villager(40, 40) + "hand 0 1;");
        due(45, "02 alike by 03, more than 12 by a morning", two.join(), 2);
    }

    // ---- 46 to 48 ----

    private static void plansAtBounds() {
        int[] mornings = {1, 2, 3, 4, 5, 14};
        for (int m : mornings) {
            WaistcoatGreen x = Check.told(Texts.green(m, 0, 0, 0, 0) + Texts.wearer(7, 0));
            int most = Math.min(4, m);
            for (int n : new int[] {LOW, -1, 0, 1, most, most + 1, 5, HIGH}) {
                boolean such = n >= 1 && n <= most;
                due(46, "plan(" + n + ") of " + m, x.plan(n), such ? 7 * (n + 1) : NO);
                due(48, "plans(" + n + ") of " + m, x.plans(n), such ? 1 : NO);
                due(47, "planned(" + n + ", 0) of " + m, x.planned(n, 0), such ? 0 : NO);
            }
            for (int n = 1; n <= most; n++) {
                for (int k : new int[] {LOW, -1, n + 1, HIGH}) {
                    due(47, "planned(" + n + ", " + k + ") of " + m, x.planned(n, k), NO);
                }
                due(47, "planned(" + n + ", " + n + ") of " + m, x.planned(n, n), 0);
            }
        }
        WaistcoatGreen none = Check.told(Texts.MOST);
        due(46, "plan(4) of nobody", none.plan(4), 0);
        due(48, "plans(4) of nobody", none.plans(4), 1);
        due(47, "planned(4, 4) of nobody", none.planned(4, 4), -1);
    }

    private static void plansOfAll() {
        // All rows are worth the same: each way over hands counts, and each morning that the pump keeps it.
        int[][] hands = {{0, 1}, {1, 2}, {2, 3}, {3, 4}, {4, 5}, {5, 6}, {6, 0}, {0, 2}, {0, 3}, {0, 4}, {0, 5}, {1, 3}};
        StringBuilder text = new StringBuilder(Texts.green(4, 0, 0, 0, 0) + Texts.villager(9, 0).repeat(7));
        for (int[] hand : hands) {
            text.append("hand ").append(hand[0]).append(' ').append(hand[1]).append(';');
        }
        WaistcoatGreen x = Check.told(text.toString());
        long[] ways = {0, 0, 0, 0, 0, 0, 0, 1};
        for (int n = 1; n <= 4; n++) {
            long[] next = ways.clone();
            for (int[] hand : hands) {
                next[hand[0]] += ways[hand[1]];
                next[hand[1]] += ways[hand[0]];
            }
            for (int v = 0; v < 7; v++) {
                next[v] += ways[7];
            }
            ways = next;
            due(48, "plans(" + n + ")", x.plans(n), IntStream.of(0, 1, 2, 3, 4, 5, 6, 7).mapToLong(v -> next[v]).sum());
            due(46, "plan(" + n + ")", x.plan(n), 63 * (n + 1));
            int last = n;
            due(47, "the pump goes ahead of villagers", over(0, n, k -> x.planned(last, k)), new long[] {-1, -1, -1, -1, -1},
                    n + 1);
        }
        WaistcoatGreen stays = Check.told(Texts.green(2, 0, 0, 9, 0) + Texts.wearer(9, 99) + Texts.villager(9, 99));
        due(47, "without a hand it stays, to the pump never", over(0, 2, k -> stays.planned(2, k)), 0, 0, 0);
        due(48, "one row", stays.plans(2), 1);
        WaistcoatGreen two = Check.told(Texts.green(2, 0, 0, 9, 0) + Texts.wearer(9, 99) + Texts.villager(9, 99) + "hand 1 0;");
        due(46, "18 9 0", two.plan(2), 27);
        due(48, "0 0 1, 0 1 0", two.plans(2), 2);
        due(47, "the first is least", over(0, 2, k -> two.planned(2, k)), 0, 0, 1);
        two.gives(1, 0);
        due(48, "what is given aside", two.plans(2), 2);
        two.sings(1, 2);
        due(46, "songs as now", two.plan(2), 27);
        due(48, "0 0 0, 0 0 1 and 0 1 0 are worth the same", two.plans(2), 3);
    }

    private static void due(int promise, String call, long[] got, long[] want, int howMany) {
        Check.due(promise, call, got, java.util.Arrays.copyOf(want, howMany));
    }

    // ---- 49 to 54 ----

    private static WaistcoatGreen seen(String text, int width, long... numbers) {
        return new Script().text(text).then("green").row(0, width, numbers).on(new WaistcoatGreen());
    }

    private static void told(String what, WaistcoatGreen x, int villager, long... want) {
        due(49, "colds " + what, x.colds(0, villager), want[0]);
        due(50, "low " + what, x.low(0, villager), want[1]);
        due(51, "high " + what, x.high(0, villager), want[2]);
        due(52, "ask " + what, x.ask(0, villager), want[3]);
        due(53, "leaves " + what, x.leaves(0, villager), want[4]);
    }

    private static void coldsAtBounds() {
        String sixty = Texts.LEAST + Texts.villager(30, 60);
        told("of no pair", seen(sixty, 0), 0, 61, 0, 60, 1, 60);
        told("of the greatest", seen(sixty, 0, 1, 0), 0, 1, 60, 60, -1, 1);
        told("of all but the greatest", seen(sixty, 0, 1, -1), 0, 60, 0, 59, -1, 60);
        String least = Texts.LEAST + Texts.villager(30, 1);
        told("of the least", seen(least, 0, 1, -1), 0, 1, 0, 0, -1, 1);
        told("of all but the least", seen(least, 0, 1, 0), 0, 60, 1, 60, -1, 60);
        told("of none", seen(least, 0, 0, 0), 0, 0, -1, -1, -1, 0);
        told("of the first and the last morning", seen(least, 0, 0, -1, 1, 0), 0, 60, 1, 60, -1, 60);
        told("of one thing twice", seen(least, 0, 1, 0, 1, 0), 0, 60, 1, 60, -1, 60);
        told("of one morning and two who had it", seen(least, 0, 1, 0, 1, -1), 0, 0, -1, -1, -1, 0);
        String never = Texts.LEAST + Texts.villager(30, 61);
        told("of one too shy", seen(never, 0), 0, 61, 0, 60, -1, 61);
        // From the pump on 1 by 20 or more, on 2 by 10, on 3 by 0, chill 10: 41, 51 and 61 of 61.
        String slow = Texts.green(3, 0, 0, 0, 10) + Texts.villager(0, 20);
        told("of three mornings", seen(slow, 0), 0, 61, 0, 60, 1, 41);
        told("of the pump on 1", seen(slow, 0, 1, -1), 0, 20, 0, 19, 2, 10);
        told("of the pump on 2", seen(slow, 0, 2, -1), 0, 10, 0, 9, -1, 10);
        String seven = Texts.green(3, 0, 0, 0, 10) + Texts.villager(0, 99).repeat(6) + Texts.villager(0, 20);
        told("of the last of seven", seen(seven, 0), 6, 61, 0, 60, 1, 41);
        told("of the last of seven, the pump on 1", seen(seven, 0, 1, -1), 6, 20, 0, 19, 2, 10);
        told("of the last of seven, he on 2", seen(seven, 0, 2, 6), 6, 51, 10, 60, 1, 41);
        // By each of the mornings 1 and 2 he is told from the others alike: the first is asked.
        String late = Texts.green(2, 0, 0, 0, 0) + Texts.villager(0, 30);
        told("of several the first", seen(late, 0), 0, 61, 0, 60, 1, 31);
        WaistcoatGreen song = seen(sixty, 0, 1, 0);
        song.sings(0, 0);
        told("with a song", song, 0, 0, -1, -1, -1, 0);
        song.undo();
        song.gives(0, 0);
        told("with what is given", song, 0, 61, 0, 60, -1, 61);
        due(6, "cold as told stays", song.villager(0, 0), 30);
    }

    private static void rowsAtBounds() {
        WaistcoatGreen x = Check.told(Texts.FULL);
        for (int width = 0; width <= 3; width++) {
            x.row(width, width, 60);
            for (int i = 0; i < 30; i++) {
                x.write(width, 2 * i, i % 15);
                x.write(width, 2 * i + 1, Texts.FULL_HAS[i % 15]);
            }
            due(54, "laws of a full row of width " + width, x.laws(width) & 1, 1);
            due(49, "colds of a full row", x.colds(width, 3) > 0 ? 1 : 0, 1);
            due(50, "low is 30 or less", x.low(width, 3) <= 30 ? 1 : 0, 1);
            due(51, "high is 30 or more", x.high(width, 3) >= 30 ? 1 : 0, 1);
            due(52, "nothing is left to ask", x.ask(width, 3), -1);
            due(53, "leaves all", x.leaves(width, 3), x.colds(width, 3));
            x.write(width, 59, 3);
            due(54, "laws of a full row, the last number wrong", x.laws(width) & 1, 0);
            due(49, "colds of a full row, the last number wrong", x.colds(width, 6), 0);
            x.write(width, 59, 7);
            due(54, "laws of a full row, the last number none such", x.laws(width), NO);
            x.row(width, width, 59);
            due(54, "laws of 59 numbers", x.laws(width), NO);
            due(49, "colds of 59 numbers", x.colds(width, 0), NO);
            x.row(width, width, 1);
            due(54, "laws of one number", x.laws(width), NO);
            due(53, "leaves of one number", x.leaves(width, 0), NO);
            x.row(width, width, 0);
            due(54, "laws of no number", x.laws(width), 15);
            due(49, "colds of no number", x.colds(width, 6), 61);
        }
    }

    private static void numbersNoneSuch() {
        long[][] none = {{-1, 0}, {15, 0}, {0, -2}, {0, 7}, {0, 6, 15, 6}, {0, 6, 0, 7}, {128, 6}, {0, -128}, {0, 6, 0, 6, -1, 6}};
        for (int width = 0; width <= 3; width++) {
            for (long[] numbers : none) {
                allSay(seen(Texts.FULL, width, numbers), NO, "of a number none such, width " + width);
            }
        }
        long[][] far = {{4294967296L, 6}, {0, 4294967302L}, {0, 4294967295L}, {Long.MIN_VALUE, 6}, {0, Long.MAX_VALUE},
            {Long.MAX_VALUE, 6}, {0, Long.MIN_VALUE}};
        for (long[] numbers : far) {
            allSay(seen(Texts.FULL, 3, numbers), NO, "of a number far off");
        }
        WaistcoatGreen pump = seen(Texts.green(14, 0, 0, 0, 0) + Texts.villager(0, 99), 0, 0, -1, 14, -1);
        due(54, "the pump, on the first and the last", pump.laws(0), 15);
        due(49, "the pump, on the first and the last", pump.colds(0, 0), 61);
        WaistcoatGreen nobody = seen(Texts.LEAST, 0, 1, -1);
        due(54, "the pump, where nobody is", nobody.laws(0), 15);
        due(54, "villager 0, where nobody is", seen(Texts.LEAST, 0, 1, 0).laws(0), NO);
    }

    private static void allSay(WaistcoatGreen x, int answer, String what) {
        due(49, "colds " + what, x.colds(0, 0), answer);
        due(50, "low " + what, x.low(0, 0), answer);
        due(51, "high " + what, x.high(0, 0), answer);
        due(52, "ask " + what, x.ask(0, 0), answer);
        due(53, "leaves " + what, x.leaves(0, 0), answer);
        due(54, "laws " + what, x.laws(0), answer);
    }

    private static void seenRefused() {
        allSay(Check.told(Texts.FULL), -6, "of nothing");
        allSay(new WaistcoatGreen(), NO, "of nothing without a green");
        WaistcoatGreen x = new Script().text(Texts.FULL).then("green").row(0, 0).row(3, 0).on(new WaistcoatGreen());
        for (int slot : new int[] {-1, 4, LOW, HIGH}) {
            for (int v : new int[] {0, 6, 7}) {
                due(49, "colds(" + slot + ", " + v + ")", x.colds(slot, v), NO);
                due(50, "low(" + slot + ", " + v + ")", x.low(slot, v), NO);
                due(51, "high(" + slot + ", " + v + ")", x.high(slot, v), NO);
                due(52, "ask(" + slot + ", " + v + ")", x.ask(slot, v), NO);
                due(53, "leaves(" + slot + ", " + v + ")", x.leaves(slot, v), NO);
            }
            due(54, "laws(" + slot + ")", x.laws(slot), NO);
        }
        for (int v : NO_VILLAGERS) {
            for (int slot : new int[] {0, 1, 3}) {
                due(49, "colds(" + slot + ", " + v + "), none such ahead of nothing", x.colds(slot, v), NO);
                due(50, "low(" + slot + ", " + v + "), none such ahead of nothing", x.low(slot, v), NO);
                due(51, "high(" + slot + ", " + v + "), none such ahead of nothing", x.high(slot, v), NO);
                due(52, "ask(" + slot + ", " + v + "), none such ahead of nothing", x.ask(slot, v), NO);
                due(53, "leaves(" + slot + ", " + v + "), none such ahead of nothing", x.leaves(slot, v), NO);
            }
        }
        due(49, "the first and the last slot", new long[] {x.colds(0, 0), x.colds(3, 6), x.colds(1, 0), x.colds(2, 6)},
                61, 61, -6, -6);
        due(54, "the first and the last slot", over(-1, 4, s -> x.laws(s)), NO, 15, -6, -6, 15, NO);
        WaistcoatGreen none = new Script().row(0, 0).on(new WaistcoatGreen());
        allSay(none, NO, "of a row without a green");
        WaistcoatGreen bare = new Script().text(Texts.LEAST).then("green").row(0, 0).on(new WaistcoatGreen());
        due(49, "colds where nobody is", new long[] {bare.colds(0, 0), bare.colds(1, 0)}, NO, NO);
        due(54, "laws where nobody is", new long[] {bare.laws(0), bare.laws(1)}, 15, -6);
    }

    // ---- 55, 56 ----

    private static void lawsAtBounds() {
        WaistcoatGreen x = Check.told(Texts.green(2, 3, 0, 40, 0) + Texts.wearer(0, 0) + Texts.villager(10, 0)
                + Texts.villager(30, 0) + Texts.villager(40, 0) + "hand 0 1;hand 0 2;hand 2 3;");
        due(55, "by: 80 50 10, 80 70 70, 80 40 10, 80 70 70", over(-1, 4, l -> x.by(l)), NO, 140, 220, 130, 220, NO);
        due(55, "by far off", new long[] {x.by(LOW), x.by(HIGH)}, NO, NO);
        due(56, "law(): the least", x.law(), 2);
        due(26, "sum() is by the one told", x.sum(), 220);
        due(70, "the law stays", x.count(1), 3);
        WaistcoatGreen same = Check.told(Texts.MOST + Texts.villager(9, 9));
        due(56, "law(): the least of four alike", same.law(), 0);
        due(56, "law() where nobody is", Check.told(Texts.MOST).law(), 0);
        due(55, "by where nobody is", over(-1, 4, l -> Check.told(Texts.MOST).by(l)), NO, 0, 0, 0, 0, NO);
        // By law 3 it goes to 2 (20), whom it warms by 20, by the others to 1 (30), by 30 at most.
        WaistcoatGreen last = Check.told(Texts.green(1, 0, 0, 40, 0) + Texts.wearer(10, 0) + Texts.villager(15, 0)
                + Texts.villager(12, 0) + "hand 0 1;hand 0 2;");
        last.sings(1, 1);
        last.sings(1, 1);
        due(55, "he of 15 sings to 0 himself: 17 less for him, 25 by the last law", over(0, 3, l -> last.by(l)),
                37 + 22, 37 + 22, 37 + 22, 37 + 10);
        due(56, "law(): the last", last.law(), 3);
        due(54, "laws of no green", new WaistcoatGreen().laws(0), NO);
        // Of 7, 9 and 5 he of 9 sings: 9 of those of law 0 and 2 are lost, 7 are saved by law 1, 5 by law 3.
        WaistcoatGreen first = Check.told(Texts.green(1, 0, 0, 40, 0) + Texts.wearer(0, 0) + Texts.villager(7, 0)
                + Texts.villager(9, 0) + Texts.villager(5, 0) + "hand 0 1;hand 0 2;hand 0 3;");
        first.sings(2, 1);
        due(55, "by: 21 and 12, 5, 12, 7", over(0, 3, l -> first.by(l)), 33, 26, 33, 28);
        due(56, "law(): 1", first.law(), 1);
        for (int v = 0; v <= 3; v++) {
            first.row(0, 0, 2);
            first.write(0, 0, 1);
            first.write(0, 1, v);
            due(54, "laws by which " + v + " has it on 1", first.laws(0), new int[] {0, 2, 5, 8}[v]);
        }
    }

    // ---- 57, 58 ----

    private static void worthAtBounds() {
        WaistcoatGreen x = Check.told(Texts.green(14, 0, 0, 0, 0) + Texts.villager(1, 1).repeat(6) + Texts.wearer(1, 1));
        due(57, "sets", over(-1, 1, s -> x.worth(s)), NO, 0, 14);
        due(57, "sets", over(63, 65, s -> x.worth(s)), 14, 15, 15);
        due(57, "sets", over(126, 129, s -> x.worth(s)), 15, 15, NO, NO);
        due(57, "far off", new long[] {x.worth(LOW), x.worth(HIGH), x.worth(256), x.worth(-127)}, NO, NO, NO, NO);
        x.gives(6, 0);
        due(57, "given to one not of the set: law", x.worth(63), 14);
        due(57, "nothing for nobody", x.worth(0), 0);
        WaistcoatGreen shy = Check.told(Texts.green(2, 0, 0, 0, 0) + Texts.villager(1, 9) + Texts.villager(1, 9));
        due(57, "nobody would", over(0, 4, s -> shy.worth(s)), 0, 0, 0, 0, NO);
        shy.gives(0, 1);
        due(57, "given from the one ahead of the last", over(0, 3, s -> shy.worth(s)), 0, 1, 0, 1);
        shy.gives(0, 0);
        shy.gives(1, 0);
        due(57, "of one morning the latest of the set holds", over(0, 3, s -> shy.worth(s)), 0, 2, 2, 2);
        WaistcoatGreen none = Check.told(Texts.MOST);
        due(57, "where nobody is", over(-1, 1, s -> none.worth(s)), NO, 0, NO);
        // 0 would not, and is not of the set: over him it goes by hands by law 2 all the same.
        WaistcoatGreen over = Check.told(Texts.green(1, 2, 0, 0, 0) + Texts.villager(1, 0) + Texts.wearer(1, 0)
                + Texts.villager(9, 0) + "hand 1 0;hand 0 2;");
        due(57, "by hands over whomever", over.worth(6), 2);
        due(12, "sets change nothing", over.has(1), 2);
    }

    private static long[] shares(WaistcoatGreen x, int what) {
        return over(-1, 7, v -> x.share(v, what));
    }

    private static void shareAtBounds() {
        int none = -1000000;
        WaistcoatGreen x = Check.told(Texts.green(14, 0, 0, 0, 0) + Texts.wearer(1, 1) + Texts.villager(1, 1).repeat(6));
        due(58, "15 of the first in an order, 1 behind others: 21 / 7", shares(x, 0), none, 3, 2, 2, 2, 2, 2, 2, none);
        due(58, "below", shares(x, 1), none, 1, 1, 1, 1, 1, 1, 1, none);
        WaistcoatGreen thirteen = Check.told(Texts.green(13, 0, 0, 0, 0) + Texts.villager(1, 1).repeat(7));
        due(58, "13 / 7 each", shares(thirteen, 0), none, 13, 13, 13, 13, 13, 13, 13, none);
        due(58, "13 / 7 each, below", shares(thirteen, 1), none, 7, 7, 7, 7, 7, 7, 7, none);
        WaistcoatGreen shy = Check.told(Texts.green(14, 0, 0, 0, 0) + Texts.villager(1, 2).repeat(7));
        due(58, "0 / 1", shares(shy, 0), none, 0, 0, 0, 0, 0, 0, 0, none);
        due(58, "0 / 1, below", shares(shy, 1), none, 1, 1, 1, 1, 1, 1, 1, none);
        WaistcoatGreen one = Check.told(Texts.ONE);
        due(58, "of one alone", new long[] {one.share(0, 0), one.share(0, 1), one.share(1, 0)}, 1, 1, none);
        for (int what : new int[] {-1, 2, LOW, HIGH}) {
            due(58, "share(0, " + what + ")", x.share(0, what), none);
        }
        for (int v : NO_VILLAGERS) {
            due(58, "share(" + v + ", .)", new long[] {x.share(v, 0), x.share(v, 1)}, none, none);
        }
        due(58, "where nobody is", Check.told(Texts.LEAST).share(0, 0), none);
        due(58, "without a green", new WaistcoatGreen().share(0, 1), none);
    }

    // ---- 59, 60 ----

    private static void restsAtBounds() {
        WaistcoatGreen x = Check.told(Texts.green(1, 0, 0, 0, 0) + Texts.villager(0, 99).repeat(7));
        due(59, "both refuse for 20", new long[] {x.rests(0, 6), x.rests(6, 0), x.rests(5, 6)}, 8, 8, 8);
        for (int v : NO_VILLAGERS) {
            due(59, "with " + v, new long[] {x.rests(v, 0), x.rests(0, v), x.rests(v, v)}, NO, NO, NO);
        }
        due(59, "one twice", over(0, 6, v -> x.rests(v, v)), NO, NO, NO, NO, NO, NO, NO);
        // By not refusing he has 10 0 (warm 20) in place of 10 0 + chill on top: just 20, 1 less, 1 more than 20.
        for (int more = -1; more <= 1; more++) {
            WaistcoatGreen y = Check.told(Texts.green(1, 0, 0, 10, 10 + more) + Texts.villager(10, 0) + Texts.villager(9, 99));
            int free = y.wins(0, 1, 0, 0);
            int proud = y.wins(0, 1, 1, 0);
            due(60, "by refusing " + (-more) + " more", proud - free, -more);
            due(59, "at rest by " + (-more), y.rests(0, 1), more < 0 ? 8 : more == 0 ? 12 : 4);
            due(59, "turned by " + (-more), y.rests(1, 0), more < 0 ? 8 : more == 0 ? 10 : 2);
        }
        due(59, "of one alone", Check.told(Texts.ONE).rests(0, 1), NO);
        restsOfEachKind();
    }

    private static void restsOfEachKind() {
        // Neither, the first, the other one, both: 736 750, 741 780, 775 741, 741 800.
        WaistcoatGreen none = Check.told(Texts.green(3, 1, 0, 0, 15) + Texts.villager(45, 20) + Texts.wearer(55, 55)
                + "hand 1 0;frost 35 at 3;");
        due(60, "the first wins", new long[] {none.wins(0, 1, 0, 0), none.wins(0, 1, 1, 0), none.wins(0, 1, 0, 1),
            none.wins(0, 1, 1, 1)}, 736, 741, 775, 741);
        due(60, "the other one wins", new long[] {none.wins(1, 0, 0, 0), none.wins(1, 0, 0, 1), none.wins(1, 0, 1, 0),
            none.wins(1, 0, 1, 1)}, 750, 780, 741, 800);
        due(59, "none at rest", new long[] {none.rests(0, 1), none.rests(1, 0)}, 0, 0);
        // 970 880, 990 880, 990 880, 990 880.
        WaistcoatGreen three = Check.told(Texts.green(1, 3, 0, 0, 20) + Texts.villager(5, 0) + Texts.villager(60, 45));
        due(59, "all but one at rest", new long[] {three.rests(0, 1), three.rests(1, 0)}, 14, 14);
        // 990 985, 990 995, 995 990, 990 990.
        WaistcoatGreen unlike = Check.told(Texts.green(2, 1, 0, 35, 5) + Texts.villager(5, 5) + Texts.villager(5, 5)
                + "hand 1 0;");
        due(59, "one refuses", new long[] {unlike.rests(0, 1), unlike.rests(1, 0)}, 6, 6);
        // 960 965, 960 985, 960 945, 960 945.
        WaistcoatGreen first = Check.told(Texts.green(2, 3, 0, 0, 20) + Texts.villager(0, 5) + Texts.villager(5, 0)
                + "hand 1 0;");
        due(59, "neither, or the first", new long[] {first.rests(0, 1), first.rests(1, 0)}, 3, 5);
        WaistcoatGreen neither = Check.told(Texts.green(2, 0, 0, 40, 20) + Texts.villager(40, 0) + Texts.villager(30, 0)
                + "hand 0 1;");
        due(59, "neither", new long[] {neither.rests(0, 1), neither.rests(1, 0)}, 1, 1);
    }

    private static void winsAtBounds() {
        int none = -10000;
        WaistcoatGreen x = Check.told(Texts.green(14, 0, 0, 0, 20) + Texts.villager(0, 99).repeat(5) + Texts.wearer(0, 99)
                + Texts.villager(60, 99) + "frost 40 at 1;");
        due(60, "nothing suffered", new long[] {x.wins(5, 0, 0, 0), x.wins(5, 0, 1, 0), x.wins(5, 0, 0, 1)}, 1000, 1020, 1000);
        int most = 60 + 14 * 99;
        due(60, "below 0", new long[] {x.wins(6, 5, 0, 0), x.wins(6, 5, 1, 1)}, 1000 - most, 1020 - most);
        for (int v : NO_VILLAGERS) {
            due(60, "with " + v, new long[] {x.wins(v, 0, 0, 0), x.wins(0, v, 0, 0), x.wins(v, v, 0, 0)}, none, none, none);
        }
        for (int choice : new int[] {-1, 2, LOW, HIGH}) {
            due(60, "choice " + choice, new long[] {x.wins(0, 1, choice, 0), x.wins(0, 1, 0, choice),
                x.wins(0, 1, choice, choice)}, none, none, none);
        }
        due(60, "one twice", over(0, 6, v -> x.wins(v, v, 0, 1)), none, none, none, none, none, none, none);
        due(60, "without a green", new WaistcoatGreen().wins(0, 1, 0, 0), none);
        WaistcoatGreen y = Check.told(Texts.green(2, 0, 0, 40, 0) + Texts.wearer(10, 0) + Texts.villager(20, 0) + "hand 0 1;");
        due(60, "who has it at first has it all the same: 10 10 0, refusing 10 10 10", new long[] {y.wins(0, 1, 0, 0),
            y.wins(0, 1, 1, 0), y.wins(0, 1, 0, 1)}, 980, 990, 990);
        due(60, "the other one: 20 0 0, 20 0 0, refusing 20 20 20", new long[] {y.wins(1, 0, 0, 0), y.wins(1, 0, 0, 1),
            y.wins(1, 0, 1, 0)}, 980, 980, 960);
        y.gives(1, 1);
        due(60, "given he has it all the same: 20 20 0 and 20", y.wins(1, 0, 1, 0), 980);
    }

    // ---- 61, 62 ----

    private static void chanceAtBounds() {
        for (int mornings : new int[] {1, 7, 8, 9, 14}) {
            WaistcoatGreen x = Check.told(Texts.green(mornings, 0, 5, 0, 0) + Texts.villager(10, 15));
            for (int m : new int[] {LOW, -1, 0, 1, 2, 7, 8, 9, 14, 15, HIGH}) {
                boolean such = m >= 1 && m <= 8 && m <= mornings;
                int halves = such ? 1 << (m - 1) : 0;
                String what = "(" + m + ") of " + mornings;
                due(61, "chance above " + what, x.chance(0, m, 0), such ? halves - 1 : NO);
                due(61, "chance below " + what, x.chance(0, m, 1), such ? halves : NO);
                due(62, "mean is told " + what, x.mean(m, 1) > 0 ? 1 : 0, such ? 1 : 0);
                due(62, "mean is told " + what, x.mean(m, 0) == NO ? 1 : 0, such ? 0 : 1);
            }
            for (int v : NO_VILLAGERS) {
                due(61, "chance of " + v, x.chance(v, 1, 0), NO);
            }
            for (int what : new int[] {-1, 2, LOW, HIGH}) {
                due(61, "chance of what " + what, x.chance(0, 1, what), NO);
                due(62, "mean of what " + what, x.mean(1, what), NO);
            }
        }
        due(62, "where nobody is", new long[] {Check.told(Texts.MOST).mean(8, 0), Check.told(Texts.MOST).mean(8, 1)}, 0, 1);
        due(61, "where nobody is", Check.told(Texts.MOST).chance(0, 1, 0), NO);
        due(61, "without a green", new WaistcoatGreen().chance(0, 1, 0), NO);
        due(62, "without a green", new WaistcoatGreen().mean(1, 0), NO);
    }

    private static long[] means(int odds, int warm, int chill, String behind) {
        WaistcoatGreen x = Check.told(Texts.green(2, 0, odds, warm, chill) + behind);
        return new long[] {x.mean(1, 0), x.mean(1, 1), x.mean(2, 0), x.mean(2, 1)};
    }

    private static void hardAtBounds() {
        String ten = Texts.villager(10, 99);
        due(62, "odds 0", means(0, 0, 0, ten), 10, 1, 10, 1);
        due(62, "odds 1", means(1, 0, 0, ten), 21, 2, 11, 1);
        due(62, "odds 9", means(9, 0, 0, ten), 29, 2, 19, 1);
        due(62, "odds 10", means(10, 0, 0, ten), 15, 1, 20, 1);
        due(62, "who has it is no colder", means(10, 3, 0, Texts.wearer(10, 99)), 7, 1, 4, 1);
        due(62, "60 20 13 5 is 98", means(10, 0, 20, Texts.villager(60, 99) + "frost 13 at 1;"), 98, 1, 99, 1);
        due(62, "60 20 14 5 is 99, and he takes it", means(10, 0, 20, Texts.villager(60, 99) + "frost 14 at 1;"), 99, 1, 99, 1);
        due(62, "60 20 15 5 is 99 at most", means(10, 0, 20, Texts.villager(60, 99) + "frost 15 at 1;"), 99, 1, 99, 1);
        due(62, "98 or 99", means(5, 0, 20, Texts.villager(60, 99) + "frost 18 at 1;"), 197, 2, 99, 1);
        WaistcoatGreen sure = Check.told(Texts.green(8, 0, 10, 0, 0) + Texts.villager(10, 15) + Texts.villager(0, 99));
        due(61, "surely from 2 on", over(1, 8, m -> sure.chance(0, m, 0)), 0, 1, 1, 1, 1, 1, 1, 1);
        due(61, "below 1", over(1, 8, m -> sure.chance(0, m, 1)), 1, 1, 1, 1, 1, 1, 1, 1);
        due(61, "never", over(1, 8, m -> sure.chance(1, m, 0)), 0, 0, 0, 0, 0, 0, 0, 0);
        due(12, "the green's own mornings are not hard", over(0, 8, m -> sure.has(m)), -1, -1, -1, -1, -1, -1, -1, -1, -1);
        WaistcoatGreen one = Check.told(Texts.green(8, 0, 1, 0, 0) + Texts.villager(10, 45));
        due(61, "by seven hard ones", new long[] {one.chance(0, 8, 0), one.chance(0, 8, 1)}, 1, 10000000);
        WaistcoatGreen nine = Check.told(Texts.green(8, 0, 9, 0, 0) + Texts.villager(10, 45));
        due(61, "by seven hard ones of odds 9", new long[] {nine.chance(0, 8, 0), nine.chance(0, 8, 1)}, 4782969, 10000000);
        WaistcoatGreen eight = Check.told(Texts.green(8, 0, 1, 0, 0) + Texts.villager(10, 50));
        due(61, "by eight it is too late", new long[] {eight.chance(0, 8, 0), eight.chance(0, 8, 1)}, 0, 1);
    }

    // ---- 67, 68 ----

    private static int hard(long seed, int mornings, int odds) {
        BigInteger x = BigInteger.valueOf(seed);
        int bits = 0;
        for (int m = 1; m <= mornings; m++) {
            x = x.multiply(BigInteger.valueOf(1103515245)).add(BigInteger.valueOf(12345)).mod(BigInteger.ONE.shiftLeft(31));
            if (x.shiftRight(16).intValueExact() % 10 < odds) {
                bits += 1 << m;
            }
        }
        return bits;
    }

    private static void drawnAtBounds() {
        int[] seeds = {0, 1, 2, 12345, 65535, 65536, 1999999999, 2000000000};
        for (int odds = 0; odds <= 10; odds++) {
            for (int mornings : new int[] {1, 8, 9, 14}) {
                WaistcoatGreen x = Check.told(Texts.green(mornings, 0, odds, 0, 0) + Texts.villager(0, 10));
                for (int seed : seeds) {
                    int bits = hard(seed, mornings, odds);
                    boolean gets = Integer.bitCount(bits & ((1 << mornings) - 1)) >= 2;
                    due(67, "drawn(" + seed + ", 0) of " + mornings + ", odds " + odds, x.drawn(seed, 0), bits);
                    due(67, "drawn(" + seed + ", 1) of " + mornings + ", odds " + odds, x.drawn(seed, 1), gets ? 0 : -1);
                }
            }
        }
        WaistcoatGreen x = Check.told(Texts.MOST);
        due(67, "all of 14", new long[] {x.drawn(0, 0), x.drawn(2000000000, 0)}, 32766, 32766);
        due(67, "the pump, where nobody is", x.drawn(0, 1), -1);
        for (int seed : new int[] {-1, 2000000001, LOW, HIGH}) {
            due(67, "drawn(" + seed + ", .)", new long[] {x.drawn(seed, 0), x.drawn(seed, 1)}, NO, NO);
        }
        for (int what : new int[] {-1, 2, LOW, HIGH}) {
            due(67, "drawn(0, " + what + ")", x.drawn(0, what), NO);
        }
        due(67, "without a green", new WaistcoatGreen().drawn(0, 0), NO);
    }

    private static void luckAtBounds() {
        WaistcoatGreen x = Check.told(Texts.green(14, 0, 1, 0, 0) + Texts.villager(0, 10) + Texts.villager(0, 99));
        for (int seed : new int[] {0, 7, 1999999980, 1999999981, 2000000000}) {
            int times = 0;
            for (int n = 1; n <= 20; n++) {
                int bits = hard(seed + (long) n - 1, 13, 1);
                times += Integer.bitCount(bits) >= 2 ? 1 : 0;
                due(68, "luck(" + seed + ", " + n + ", 0)", x.luck(seed, n, 0), times);
                due(68, "luck(" + seed + ", " + n + ", 1)", x.luck(seed, n, 1), 0);
            }
        }
        for (int n : new int[] {0, -1, 21, LOW, HIGH}) {
            due(68, "luck(0, " + n + ", 0)", x.luck(0, n, 0), NO);
        }
        for (int seed : new int[] {-1, 2000000001, LOW, HIGH}) {
            due(68, "luck(" + seed + ", 1, 0)", x.luck(seed, 1, 0), NO);
        }
        for (int v : new int[] {-1, 2, 7, LOW, HIGH}) {
            due(68, "luck(0, 1, " + v + ")", x.luck(0, 1, v), NO);
        }
        WaistcoatGreen first = Check.told(Texts.green(1, 0, 0, 0, 0) + Texts.wearer(0, 10));
        due(68, "who has it at first", new long[] {first.luck(0, 1, 0), first.luck(0, 20, 0)}, 1, 20);
        WaistcoatGreen once = Check.told(Texts.green(1, 0, 0, 4, 0) + Texts.wearer(10, 14) + Texts.villager(30, 0) + "hand 0 1;");
        due(68, "who has it on the first alone, and the other one", new long[] {once.luck(3, 7, 0), once.luck(3, 7, 1)}, 7, 7);
        WaistcoatGreen last = Check.told(Texts.green(2, 0, 10, 0, 0) + Texts.villager(0, 5));
        due(68, "who has it on the last alone", last.luck(5, 20, 0), 20);
        due(68, "without a green", new WaistcoatGreen().luck(0, 1, 0), NO);
    }
}

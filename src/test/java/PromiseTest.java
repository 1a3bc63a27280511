import java.util.function.IntUnaryOperator;
import java.util.stream.IntStream;

/** The promises one by one, with answers worked out by hand from the document. */
public final class PromiseTest {
    /**
     * Who has it: 1, 1, 0, 1, 2. How cold: 20 30 25 5, 22 20 27 7, 12 32 39 19, 14 22 41 21, 16 24 31 23.
     */
    private static final String FOUR = "green mornings 4 law 0 odds 5 warm 10 chill 2;\n"
            + "villager cold 20 shy 10; villager cold 30 shy 25 wears;\n"
            + "villager cold 25 shy 40; villager cold 5 shy 0;\n"
            + "hand 0 1; hand 1 2; frost 7 at 2; frost 3 at 2;";
    private static final String BARE = "green mornings 3 law 2 odds 4 warm 7 chill 6;";
    private static final int NO = -2;

    private PromiseTest() {
    }

    public static void main(String[] args) {
        tape();
        goodTexts();
        faults();
        faultsOfMany();
        theGreen();
        morningByMorning();
        overMornings();
        suffering();
        bare();
        pumpAndTies();
        laws();
        acts();
        undoAndAnew();
        lies();
        startAndJoin();
        plans();
        seen();
        seenRefused();
        byLaw();
        sets();
        refusing();
        chance();
        draws();
        rates();
        counts();
        images();
        slots();
        pastes();
        nothingTold();
        Check.finish("PromiseTest");
    }

    private static long[] over(int from, int to, IntUnaryOperator call) {
        return IntStream.rangeClosed(from, to).mapToLong(i -> call.applyAsInt(i)).toArray();
    }

    private static void due(String call, long got, long want) {
        Check.due(call, got, want);
    }

    private static void due(String call, long[] got, long... want) {
        Check.due(call, got, want);
    }

    // ---- 1 to 5 ----

    private static void tape() {
        WaistcoatGreen x = new WaistcoatGreen();
        due("end(1) of none", x.end(1), -1);
        due("end(-1)", x.end(-1), -1);
        due("end(0) of none", x.end(0), 0);
        due("feed", x.feed(0x67726565, 0x6e206d6f, 0x726e696e, 0x67732031, 0x206c6177), 20);
        due("feed", x.feed(0x20302020, 0x6f646473, 0x20302077, 0x61726d20, 0x30206368), 40);
        due("feed", x.feed(0x696c6c20, 0x303b2a2a, 0, 0, -1), 60);
        due("end(61)", x.end(61), -1);
        due("end(-1) with some", x.end(-1), -1);
        due("count(10)", x.count(10), 60);
        due("end(46)", x.end(46), 46);
        due("green() of green mornings 1 law 0  odds 0 warm 0 chill 0;", x.green(), 1);
        due("the tape is empty", x.count(10), 0);
        for (int i = 1; i <= 35; i++) {
            due("feed " + i, x.feed(i, i, i, i, i), 20 * i);
        }
        due("a 36th", x.feed(0, 0, 0, 0, 0), -1);
        due("700 stay", x.count(10), 700);
        due("end(681)", x.end(681), 681);
        due("701 would be too many", x.feed(0, 0, 0, 0, 0), -1);
        due("end(680)", x.end(680), 680);
        due("700 are not", x.feed(0, 0, 0, 0, 0), 700);
    }

    private static int lines(String text) {
        WaistcoatGreen x = new WaistcoatGreen();
        Check.type(x, text);
        return x.green();
    }

    private static void goodTexts() {
        due("an empty text", lines(""), 0);
        due("blanks", lines(" \n  \n"), 0);
        due("BARE", lines(BARE), 1);
        due("FOUR", lines(FOUR), 9);
        due("without blanks where kinds differ", lines("green mornings3law0odds0warm0chill0;villager cold1shy2wears;"), 2);
        due("blanks all over", lines("\n green\nmornings 1\n\nlaw 0 odds 0 warm 0 chill 0 ;\n "), 1);
        due("bounds below", lines("green mornings 1 law 0 odds 0 warm 0 chill 0; villager cold 0 shy 0;"), 2);
        due("bounds above", lines("green mornings 14 law 3 odds 10 warm 40 chill 20; villager cold 60 shy 99;"), 2);
        due("frosts' bounds", lines(BARE + "frost 1 at 1; frost 40 at 14;"), 3);
        due("noughts ahead", lines("green mornings 0000000000003 law 00 odds 0 warm 0 chill 0;"), 1);
        due("a hand twice", lines(BARE + "villager cold 1 shy 1;villager cold 1 shy 1;hand 0 1;hand 1 0;hand 0 1;"), 6);
        due("seven", lines(BARE + "villager cold 1 shy 1;".repeat(7) + "hand 6 5;".repeat(12) + "frost 1 at 14;".repeat(8)),
                28);
    }

    private static void fault(String text, int what, int place) {
        WaistcoatGreen x = new WaistcoatGreen();
        due("fault(0) ahead of any", x.fault(0), 0);
        due("fault(1) ahead of any", x.fault(1), -1);
        Check.type(x, FOUR);
        x.green();
        x.gives(3, 0);
        due("fault(0) without", x.fault(0), 0);
        due("fault(1) without", x.fault(1), -1);
        Check.type(x, text);
        int bytes = x.count(10);
        due("green() of '" + text + "'", x.green(), -4);
        due("fault(0) of '" + text + "'", x.fault(0), what);
        due("fault(1) of '" + text + "'", x.fault(1), place);
        due("fault(2)", x.fault(2), -1);
        due("fault(-1)", x.fault(-1), -1);
        due("the tape stays", x.count(10), bytes);
        due("the green stays", x.count(9), 9);
        due("the acts stay", x.count(8), 1);
        x.end(0);
        x.green();
        due("fault(0) behind a good one", x.fault(0), 0);
        due("fault(1) behind a good one", x.fault(1), -1);
    }

    private static void faults() {
        fault("green mornings 3", 1, 16);
        fault("green mornings 3 ", 1, 17);
        fault("green", 1, 5);
        fault(BARE + "villager cold 3 shy 4", 1, 66);
        fault(";", 1, 0);
        fault("  villager cold 1 shy 1;", 1, 2);
        fault("7", 1, 0);
        fault("greens mornings 1 law 0 odds 0 warm 0 chill 0;", 1, 0);
        fault("gree", 1, 0);
        fault("xreen mornings 1", 1, 0);
        fault("greenz mornings 1", 1, 0);
        fault("agreen mornings 1", 1, 0);
        fault("Green mornings 1", 1, 0);
        fault("green mornings one", 1, 15);
        fault("green law 1", 1, 6);
        fault("green mornings ; law", 1, 15);
        fault("green mornings 3\tlaw", 1, 16);
        fault("green mornings -3", 1, 15);
        fault("green mornings 3 law 2 odds 4 warm 7 chill 6 ", 1, 45);
        fault("green mornings 3 law 2 odds 4 warm 7 chill 6 villager", 1, 45);
        fault(BARE + BARE, 1, 45);
        fault(BARE + ";", 1, 45);
        fault(BARE + "wears;", 1, 45);
        fault(BARE + "villager cold 1 shy 1 wears wears;", 1, 73);
        fault(BARE + "villager cold 1 shy 1 wear;", 1, 67);
        fault(BARE + "villager shy 1 cold 1;", 1, 54);
        fault(BARE + "villager cold 1 shy 1 2;", 1, 67);
        fault(BARE + "frost 1 on 1;", 1, 53);
        fault(BARE + "\u00e9", 1, 45);
        fault(BARE + "\u0000", 1, 45);
        fault("green mornings 0 law 4", 2, 15);
        fault("green mornings 15", 2, 15);
        fault("green mornings 99999999999999999999999", 2, 15);
        fault("green mornings 4294967297 law", 2, 15);
        fault("green mornings 1 law 4", 2, 21);
        fault("green mornings 1 law 0 odds 11", 2, 28);
        fault("green mornings 1 law 0 odds 0 warm 41", 2, 35);
        fault("green mornings 1 law 0 odds 0 warm 0 chill 21", 2, 43);
        fault(BARE + "villager cold 61 shy 1;", 2, 59);
        fault(BARE + "villager cold 1 shy 100;", 2, 65);
        fault(BARE + "frost 0 at 1;", 2, 51);
        fault(BARE + "frost 41 at 1;", 2, 51);
        fault(BARE + "frost 1 at 0;", 2, 56);
        fault(BARE + "frost 1 at 15;", 2, 56);
        fault(BARE + "hand 0 1;", 2, 50);
        fault(BARE + "villager cold 1 shy 1;hand 0 1;", 2, 74);
        fault(BARE + "villager cold 1 shy 1;hand 0 0;", 2, 74);
        fault(BARE + "villager cold 1 shy 1;hand 1 0;", 2, 72);
        fault(BARE + "villager cold 1 shy 1;hand 0;", 1, 73);
        fault(BARE + "villager cold 1 shy 1 wears;villager cold 1 shy 1 wears;", 2, 95);
    }

    private static void faultsOfMany() {
        String one = "villager cold 1 shy 1;";
        fault(BARE + one.repeat(8), 3, 45 + 7 * 22);
        fault(BARE + one.repeat(7) + "villager", 3, 45 + 7 * 22);
        String two = BARE + one.repeat(2);
        fault(two + "hand 0 1;".repeat(13), 3, 89 + 12 * 9);
        fault(two + "hand 0 1;".repeat(12) + " hand 9", 3, 89 + 12 * 9 + 1);
        fault(two + "frost 1 at 1;".repeat(9), 3, 89 + 8 * 13);
        WaistcoatGreen x = Check.told(FOUR);
        due("green() of nothing takes the green away", x.green(), 0);
        due("has(0)", x.has(0), NO);
        due("counts", over(0, 11, w -> x.count(w)), 0, 0, 0, 0, 0, 0, 0, 0, 0, 0, 0, 0);
        String long14 = "green mornings 14 law 0 odds 0 warm 0 chill 3;";
        WaistcoatGreen y = Check.told(long14 + "frost 9 at 14; frost 8 at 1;");
        due("frost", new long[] {y.frost(1), y.frost(13), y.frost(14)}, 11, 3, 12);
        Check.type(y, long14);
        y.green();
        due("frost of another green", new long[] {y.frost(1), y.frost(13), y.frost(14)}, 3, 3, 3);
    }

    // ---- 6 to 11 ----

    private static void theGreen() {
        WaistcoatGreen x = Check.told(FOUR);
        due("villager(., 0)", over(-1, 4, v -> x.villager(v, 0)), NO, 20, 30, 25, 5, NO);
        due("villager(., 1)", over(-1, 4, v -> x.villager(v, 1)), NO, 10, 25, 40, 0, NO);
        due("villager(0, .)", over(-1, 2, w -> x.villager(0, w)), NO, 20, 10, NO);
        due("hands", over(-1, 4, v -> x.hands(v)), NO, 2, 5, 2, 0, NO);
        due("far(0, .)", over(-1, 4, v -> x.far(0, v)), NO, 0, 1, 2, -1, NO);
        due("far(., 2)", over(-1, 4, v -> x.far(v, 2)), NO, 2, 1, 0, -1, NO);
        due("reach", over(-1, 4, v -> x.reach(v)), NO, 7, 7, 7, 8, NO);
        due("cover()", x.cover(), 2);
        due("covers()", x.covers(), 10);
        WaistcoatGreen line = Check.told(BARE + "villager cold 1 shy 1;".repeat(7)
                + "hand 6 5;hand 5 4;hand 4 3;hand 3 2;hand 2 1;hand 1 0;");
        due("far(0, 6) along a line", line.far(0, 6), 6);
        due("reach along a line", over(0, 6, v -> line.reach(v)), 127, 127, 127, 127, 127, 127, 127);
        due("cover() of a line", line.cover(), 3);
        due("covers() of a line: 0, 2, 5", line.covers(), 1 + 4 + 32);
        WaistcoatGreen star = Check.told(BARE + "villager cold 1 shy 1;".repeat(4) + "hand 3 0;hand 3 1;hand 3 2;hand 2 3;");
        due("cover() of a star", star.cover(), 1);
        due("covers() of a star", star.covers(), 8);
        due("hands(3) of a star", star.hands(3), 7);
        WaistcoatGreen pair = Check.told(BARE + "villager cold 1 shy 1;".repeat(2) + "hand 0 1;");
        due("covers() of a pair", pair.covers(), 1);
        WaistcoatGreen apart = Check.told(BARE + "villager cold 1 shy 1;".repeat(3));
        due("cover() without hands", apart.cover(), 3);
        due("covers() without hands", apart.covers(), 7);
    }

    // ---- 12 to 40 ----

    private static void morningByMorning() {
        WaistcoatGreen x = Check.told(FOUR);
        due("has", over(-1, 5, m -> x.has(m)), NO, 1, 1, 0, 1, 2, NO);
        due("cold(0, .)", over(-1, 5, m -> x.cold(0, m)), NO, 20, 22, 12, 14, 16, NO);
        due("cold(1, .)", over(-1, 5, m -> x.cold(1, m)), NO, 30, 20, 32, 22, 24, NO);
        due("cold(2, .)", over(-1, 5, m -> x.cold(2, m)), NO, 25, 27, 39, 41, 31, NO);
        due("cold(3, .)", over(-1, 5, m -> x.cold(3, m)), NO, 5, 7, 19, 21, 23, NO);
        due("cold(., 0)", over(-1, 4, v -> x.cold(v, 0)), NO, 20, 30, 25, 5, NO);
        due("takes", over(-1, 5, m -> x.takes(m)), NO, 11, 9, 11, 13, 9, NO);
        due("coldest", over(-1, 5, m -> x.coldest(m)), NO, 1, 2, 2, 2, 2, NO);
        due("warmest", over(-1, 5, m -> x.warmest(m)), NO, 3, 3, 0, 0, 0, NO);
        due("all", over(-1, 5, m -> x.all(m)), NO, 80, 76, 102, 98, 94, NO);
        due("passes", over(-1, 5, m -> x.passes(m)), NO, -1, 0, 1, 2, NO, NO);
        due("alike", over(-1, 5, m -> x.alike(m)), NO, 0, 0, 0, 0, 0, NO);
        due("near", over(-1, 5, m -> x.near(m)), NO, 1, 1, 2, 5, 0, NO);
        due("frost", over(-1, 5, m -> x.frost(m)), NO, NO, 2, 12, 2, 2, NO);
        WaistcoatGreen same = Check.told(BARE + "villager cold 5 shy 9; villager cold 5 shy 9; villager cold 5 shy 9;"
                + "villager cold 6 shy 9; hand 0 1; hand 2 0; hand 0 3;");
        due("alike: 01, 02, not 12, not 03", same.alike(0), 2);
        due("colder(0, .)", over(-1, 5, m -> x.colder(0, m)), NO, 6, 4, 14, 14, 14, NO);
        due("colder(., 1)", over(-1, 4, v -> x.colder(v, 1)), NO, 4, 5, 0, 7, NO);
    }

    private static void overMornings() {
        WaistcoatGreen x = Check.told(FOUR);
        due("worn", over(-1, 4, v -> x.worn(v)), NO, 1, 3, 1, 0, NO);
        due("gets", over(-1, 4, v -> x.gets(v)), NO, 2, 0, 4, -1, NO);
        due("keeps", over(-1, 4, v -> x.keeps(v)), NO, 1, 2, 1, 0, NO);
        due("rises", over(-1, 4, v -> x.rises(v)), NO, 3, 2, 3, 4, NO);
        due("waits", over(-1, 4, v -> x.waits(v)), NO, 2, 0, 1, 5, NO);
        due("returns", over(-1, 4, v -> x.returns(v)), NO, 0, 1, 0, 0, NO);
        due("pump()", x.pump(), 0);
        due("right()", x.right(), 17);
        due("stops()", x.stops(), 4);
        due("round()", x.round(), 7);
        due("jumps()", x.jumps(), 3);
        due("longest()", x.longest(), 2);
    }

    private static void suffering() {
        WaistcoatGreen x = Check.told(FOUR);
        due("suffers", over(-1, 4, v -> x.suffers(v)), NO, 84, 128, 163, 75, NO);
        due("sum()", x.sum(), 450);
        due("worst()", x.worst(), 2);
        due("fair()", x.fair(), 88);
        due("blue()", x.blue(), 2);
        due("freezes(2, 0)", x.freezes(2, 0), 0);
        due("freezes(2, 25)", x.freezes(2, 25), 0);
        due("freezes(2, 26)", x.freezes(2, 26), 1);
        due("freezes(2, 41)", x.freezes(2, 41), 3);
        due("freezes(2, 42)", x.freezes(2, 42), -1);
        due("freezes(2, 99)", x.freezes(2, 99), -1);
        due("freezes(2, 100)", x.freezes(2, 100), NO);
        due("freezes(2, -1)", x.freezes(2, -1), NO);
        due("freezes(4, 1)", x.freezes(4, 1), NO);
        due("freezes(-1, 1)", x.freezes(-1, 1), NO);
        WaistcoatGreen low = Check.told("green mornings 1 law 0 odds 0 warm 9 chill 9; villager cold 20 shy 0 wears;"
                + "villager cold 11 shy 99;");
        due("blue() of several: 20 on one morning, 20 on another", low.blue(), 0);
        due("worst() of several: 20 + 11, 11 + 20", low.worst(), 0);
        due("fair() of equals", low.fair(), 0);
    }

    private static void bare() {
        WaistcoatGreen x = Check.told(BARE);
        due("has", over(-1, 4, m -> x.has(m)), NO, -1, -1, -1, -1, NO);
        due("passes", over(0, 3, m -> x.passes(m)), -1, -1, -1, NO);
        due("takes, all, near, alike(0)", new long[] {x.takes(0), x.all(0), x.near(0), x.alike(0)}, 0, 0, 0, 0);
        due("coldest, warmest(0)", new long[] {x.coldest(0), x.warmest(0)}, -1, -1);
        due("coldest, warmest(4)", new long[] {x.coldest(4), x.warmest(4)}, NO, NO);
        due("worst, blue", new long[] {x.worst(), x.blue()}, -1, -1);
        due("cover, covers", new long[] {x.cover(), x.covers()}, 0, 0);
        due("pump, right, stops, round", new long[] {x.pump(), x.right(), x.stops(), x.round()}, 4, 0, 0, 0);
        due("sum, fair, jumps, longest", new long[] {x.sum(), x.fair(), x.jumps(), x.longest()}, 0, 0, 0, 4);
        due("frost(1)", x.frost(1), 6);
        due("liars, start, join", new long[] {x.liars(), x.start(), x.join()}, 0, -1, -1);
        due("plan, planned, plans", new long[] {x.plan(3), x.planned(3, 3), x.plans(3)}, 0, -1, 1);
        due("by, law", new long[] {x.by(3), x.law()}, 0, 0);
        due("worth", over(-1, 1, s -> x.worth(s)), NO, 0, NO);
        due("mean", new long[] {x.mean(1, 0), x.mean(1, 1)}, 0, 1);
        due("drawn(5, 1)", x.drawn(5, 1), -1);
        due("share(0, 0)", x.share(0, 0), -1000000);
        x.row(0, 0, 2);
        x.write(0, 0, 3);
        x.write(0, 1, -1);
        due("laws of the pump", x.laws(0), 15);
        due("colds without villagers", x.colds(0, 0), NO);
        due("undo, anew", new long[] {x.undo(), x.anew()}, -5, 0);
    }

    private static void pumpAndTies() {
        WaistcoatGreen x = Check.told("green mornings 3 law 0 odds 0 warm 3 chill 4; villager cold 20 shy 28;"
                + "villager cold 21 shy 30; villager cold 21 shy 28; villager cold 1 shy 99; hand 1 2; hand 1 2; hand 0 3;");
        due("has: the first whose coldness is his shyness or more", over(0, 3, m -> x.has(m)), -1, -1, -1, 2);
        due("takes", over(0, 3, m -> x.takes(m)), 0, 0, 5, 3);
        due("near from the pump, then by hands", over(0, 3, m -> x.near(m)), 0, 0, 5, 2);
        due("coldest, the first of several", over(0, 3, m -> x.coldest(m)), 1, 1, 1, 1);
        due("alike, a pair once", over(0, 3, m -> x.alike(m)), 1, 1, 1, 0);
        due("pump()", x.pump(), 3);
        due("stops()", x.stops(), 3);
        due("longest() is the pump's", x.longest(), 3);
        due("jumps()", x.jumps(), 1);
        due("right(): the pump never is", x.right(), 0);
        due("round()", x.round(), 4);
        due("worst() the first of several", x.worst(), 1);
        WaistcoatGreen tie = Check.told("green mornings 1 law 0 odds 0 warm 0 chill 0; villager cold 9 shy 10;"
                + "villager cold 30 shy 30; villager cold 30 shy 1; villager cold 9 shy 0;");
        due("from the pump to the first of the coldest", tie.passes(0), 1);
        due("warmest, the first of several", tie.warmest(0), 0);
        WaistcoatGreen coldLaw1 = Check.told("green mornings 1 law 1 odds 0 warm 0 chill 0; villager cold 9 shy 1;"
                + "villager cold 30 shy 1;");
        due("from the pump to the coldest by law 1, too", coldLaw1.passes(0), 1);
        WaistcoatGreen coldLaw3 = Check.told("green mornings 1 law 3 odds 0 warm 0 chill 0; villager cold 9 shy 1;"
                + "villager cold 30 shy 1;");
        due("from the pump to the coldest by law 3, too", coldLaw3.passes(0), 1);
    }

    private static WaistcoatGreen byLaws(int law, int shyOfThree, int coldOfOne) {
        return Check.told("green mornings 2 law " + law + " odds 0 warm 5 chill 1; villager cold 10 shy 0 wears;"
                + "villager cold " + coldOfOne + " shy 0; villager cold 20 shy 0; villager cold 30 shy " + shyOfThree
                + "; villager cold 40 shy 40; hand 0 3; hand 0 2; hand 1 0; hand 3 4;");
    }

    private static void laws() {
        due("passes(0) by law", over(0, 3, l -> byLaws(l, 0, 25).passes(0)), 3, 1, 4, 2);
        due("passes(0), 3 too shy", over(0, 3, l -> byLaws(l, 31, 25).passes(0)), 1, 1, 4, 2);
        due("passes(0), 1 as cold as 3", over(0, 3, l -> byLaws(l, 0, 30).passes(0)), 1, 1, 4, 2);
        due("passes(0), 1 as cold as 2", over(0, 3, l -> byLaws(l, 0, 20).passes(0)), 3, 1, 4, 1);
        due("passes(0), 1 no colder than he", over(0, 3, l -> byLaws(l, 0, 10).passes(0)), 3, 2, 4, 2);
        WaistcoatGreen far = Check.told("green mornings 2 law 2 odds 0 warm 5 chill 1; villager cold 10 shy 0 wears;"
                + "villager cold 9 shy 99; villager cold 20 shy 0; villager cold 30 shy 0; villager cold 20 shy 0;"
                + "hand 0 1; hand 1 4; hand 4 2;");
        due("law 2 over whomever, the first of several, none beyond hands", far.passes(0), 2);
        due("has by law 2", over(0, 2, m -> far.has(m)), 0, 2, 4);
        WaistcoatGreen line = Check.told("green mornings 1 law 2 odds 0 warm 5 chill 1; villager cold 10 shy 0 wears;"
                + "villager cold 9 shy 99;".repeat(5) + "villager cold 11 shy 11;"
                + "hand 0 1; hand 1 2; hand 2 3; hand 3 4; hand 4 5; hand 5 6;");
        due("law 2 by six hands", line.passes(0), 6);
    }

    // ---- 63 to 66 ----

    private static void acts() {
        WaistcoatGreen x = Check.told(FOUR);
        due("gives to one without hands who would not", x.gives(3, 0), 3);
        due("has", over(0, 4, m -> x.has(m)), 1, 3, 3, 3, 3);
        due("passes where it is given", x.passes(0), -1);
        due("cold(3, .)", over(0, 4, m -> x.cold(3, m)), 5, 0, 0, 0, 0);
        due("gives from another morning", x.gives(0, 2), 1);
        due("has", over(0, 4, m -> x.has(m)), 1, 3, 3, 0, 1);
        due("of one morning the latest", x.gives(2, 0), 0);
        due("has: on 3 he is 24, and so is 1", over(0, 4, m -> x.has(m)), 1, 2, 1, 0, 0);
        due("gives refused", new long[] {x.gives(4, 0), x.gives(-1, 0), x.gives(0, -1), x.gives(0, 4)}, NO, NO, NO, NO);
        due("sings refused", new long[] {x.sings(4, 0), x.sings(-1, 0), x.sings(0, -1), x.sings(0, 5)}, NO, NO, NO, NO);
        due("count(8)", x.count(8), 3);
        WaistcoatGreen y = Check.told("green mornings 2 law 0 odds 0 warm 30 chill 20; villager cold 15 shy 99;"
                + "villager cold 60 shy 0; frost 40 at 1; frost 40 at 2;");
        due("has", over(0, 2, m -> y.has(m)), -1, 1, 1);
        due("cold(0, .), 99 at most", over(0, 2, m -> y.cold(0, m)), 15, 75, 99);
        due("cold(1, .), 0 at least", over(0, 2, m -> y.cold(1, m)), 60, 30, 0);
        due("sings on the first", y.sings(0, 0), 5);
        due("sings on it again", y.sings(0, 0), 0);
        due("sings on the last", y.sings(0, 2), 89);
        due("sings on it again", y.sings(0, 2), 79);
        due("who has it sings", y.sings(1, 1), 20);
        due("cold(0, .)", over(0, 2, m -> y.cold(0, m)), 0, 60, 79);
        due("cold as told stays", y.villager(0, 0), 15);
        due("frost(.) stays", over(1, 2, m -> y.frost(m)), 60, 60);
        for (int i = 5; i < 30; i++) {
            due("act " + i, y.sings(0, 1), Math.max(0, 60 - 10 * (i - 4)));
        }
        due("a 31st song", y.sings(0, 1), -5);
        due("a 31st gift", y.gives(0, 1), -5);
        due("ahead of that", new long[] {y.gives(2, 1), y.gives(0, 2), y.sings(2, 1), y.sings(0, 3)}, NO, NO, NO, NO);
        due("count(8)", y.count(8), 30);
        due("cold behind a song of before", y.cold(0, 1), 0);
    }

    private static void undoAndAnew() {
        WaistcoatGreen x = Check.told(FOUR);
        due("undo() of none", x.undo(), -5);
        due("anew() of none", x.anew(), 0);
        x.gives(3, 0);
        x.gives(2, 0);
        x.sings(0, 4);
        due("cold(0, 4)", x.cold(0, 4), 4);
        due("undo()", x.undo(), 2);
        due("cold(0, 4)", x.cold(0, 4), 14);
        due("has(1)", x.has(1), 2);
        due("undo()", x.undo(), 1);
        due("the one ahead holds again", x.has(1), 3);
        due("anew()", x.anew(), 1);
        due("has", over(0, 4, m -> x.has(m)), 1, 1, 0, 1, 2);
        due("undo() behind anew()", x.undo(), -5);
        x.sings(1, 1);
        Check.type(x, FOUR);
        due("green() again", x.green(), 9);
        due("nothing is done", x.count(8), 0);
        due("cold(1, 1)", x.cold(1, 1), 20);
    }

    // ---- 41 to 45 ----

    private static void lies() {
        WaistcoatGreen x = Check.told("green mornings 1 law 0 odds 0 warm 10 chill 5; villager cold 25 shy 30;"
                + "villager cold 20 shy 0; villager cold 19 shy 3;");
        due("lies", over(-1, 3, v -> x.lies(v)), NO, 0, 0, 0, NO);
        due("gains: 55 less 40", over(-1, 3, v -> x.gains(v)), NO, 15, 0, 0, NO);
        due("liars()", x.liars(), 1);
        due("shy stays", x.villager(0, 1), 30);
        WaistcoatGreen y = Check.told("green mornings 3 law 0 odds 0 warm 10 chill 4; villager cold 10 shy 0;"
                + "villager cold 4 shy 0; hand 0 1;");
        due("has", over(0, 3, m -> y.has(m)), -1, 0, 1, 0);
        due("suffers(0): 10 0 4 0", y.suffers(0), 14);
        due("lies(0): 10 14 4 0 by 11 is more", y.lies(0), 0);
        due("gains(0)", y.gains(0), 0);
        due("lies(1): as told 4 8 0 4 is 16", y.lies(1), 0);
        WaistcoatGreen z = Check.told("green mornings 2 law 0 odds 0 warm 40 chill 20; villager cold 15 shy 16 wears;"
                + "villager cold 20 shy 0; villager cold 40 shy 41; hand 0 1; hand 1 2;");
        due("has", over(0, 2, m -> z.has(m)), 0, 1, 2);
        due("lies(1): told 21 he has it last, 20 40 0; told 0 20 0 20", z.lies(1), 0);
        due("gains(1)", z.gains(1), 0);
        WaistcoatGreen w = Check.told("green mornings 3 law 0 odds 0 warm 20 chill 10; villager cold 10 shy 0;"
                + "villager cold 5 shy 15; hand 0 1; frost 40 at 3;");
        due("has", over(0, 3, m -> w.has(m)), -1, 0, 1, 0);
        due("suffers(0): 10 0 10 0", w.suffers(0), 20);
        due("suffers(1): 5 15 0 50", w.suffers(1), 70);
        due("lies(1): told 16 he has it on the last alone, 5 15 25 5", w.lies(1), 16);
        due("gains(1)", w.gains(1), 20);
        due("liars()", w.liars(), 2);
        liesAtTheEdges();
    }

    private static void liesAtTheEdges() {
        WaistcoatGreen first = Check.told("green mornings 2 law 0 odds 0 warm 20 chill 10; villager cold 0 shy 0 wears;"
                + "villager cold 15 shy 15; hand 0 1; frost 40 at 2;");
        due("one more than he is on morning 0: 15 25 5 for 15 0 50", first.lies(1), 16);
        due("gains(1)", first.gains(1), 20);
        WaistcoatGreen none = Check.told("green mornings 1 law 0 odds 0 warm 0 chill 1; villager cold 0 shy 50;");
        due("he is 0, told 0 he has it", none.lies(0), 0);
        due("gains of 1", none.gains(0), 1);
        due("liars() by 1", none.liars(), 1);
        // Told 98 or less he has it on 2 and 4: 58 98 58 99 59. Told 99 on 3 and 4: 58 98 99 59 19.
        WaistcoatGreen most = Check.told("green mornings 4 law 0 odds 0 warm 40 chill 20; villager cold 60 shy 0;"
                + "villager cold 58 shy 98; hand 0 1; frost 20 at 1; frost 40 at 2; frost 38 at 3;");
        due("suffers(1)", most.suffers(1), 372);
        due("told 99", most.lies(1), 99);
        due("gains(1)", most.gains(1), 39);
    }

    private static void startAndJoin() {
        // Now the pump has it for good: 10 10, 20 20, 30 30, by chill 5 on each of two mornings.
        WaistcoatGreen x = Check.told("green mornings 2 law 0 odds 0 warm 20 chill 5; villager cold 10 shy 99;"
                + "villager cold 20 shy 99; villager cold 30 shy 99;");
        due("sum()", x.sum(), 60 + 75 + 90);
        due("start(): 30 10 0 is 60 less than now", x.start(), 2);
        due("join() without anybody who would", x.join(), -1);
        x.gives(2, 0);
        due("start() with a gift from morning 0", x.start(), -1);
        WaistcoatGreen y = Check.told("green mornings 2 law 0 odds 0 warm 20 chill 5; villager cold 10 shy 0 wears;"
                + "villager cold 20 shy 0; villager cold 30 shy 0; villager cold 30 shy 0;");
        due("start() of several the first", y.start(), 2);
        due("join() of several the first: 90, 85, 85 by each", y.join(), 1);
        due("hands stay", y.hands(0), 0);
        WaistcoatGreen z = Check.told("green mornings 2 law 0 odds 0 warm 20 chill 5; villager cold 10 shy 0;"
                + "villager cold 20 shy 0 wears; villager cold 30 shy 0; hand 1 2;");
        due("join(): there is the best", z.join(), -1);
        due("start(): 2 gets it at once as it is", z.start(), -1);
        // Now it stays with 1: 10 0 30 40. By a hand to 3 it is with him: 10 20 30 0, and so if he has it at first.
        WaistcoatGreen w = Check.told("green mornings 1 law 0 odds 0 warm 40 chill 0; villager cold 10 shy 0;"
                + "villager cold 20 shy 0 wears; villager cold 30 shy 0; villager cold 40 shy 0; hand 0 1;");
        due("join()", w.join(), 13);
        due("start()", w.start(), 3);
    }

    // ---- 46 to 48 ----

    private static void plans() {
        WaistcoatGreen x = Check.told("green mornings 2 law 0 odds 0 warm 10 chill 5; villager cold 10 shy 99 wears;"
                + "villager cold 30 shy 99; hand 0 1;");
        due("plan: 40 and 35; 30 more", over(0, 3, n -> x.plan(n)), NO, 75, 105, NO);
        due("plans: 00 01; 001 010 011", over(0, 3, n -> x.plans(n)), NO, 2, 3, NO);
        due("planned(1, .)", over(-1, 2, k -> x.planned(1, k)), NO, 0, 0, NO);
        due("planned(2, .)", over(-1, 3, k -> x.planned(2, k)), NO, 0, 0, 1, NO);
        due("planned(3, 0)", x.planned(3, 0), NO);
        x.gives(1, 0);
        due("gifts aside", x.plans(2), 3);
        due("songs as now", x.sings(0, 2), 10);
        due("plan(2): 001 010 011 are 20 less 5, 5, 10", x.plan(2), 95);
        due("plans(2)", x.plans(2), 1);
        due("planned(2, .)", over(0, 2, k -> x.planned(2, k)), 0, 1, 1);
        WaistcoatGreen y = Check.told("green mornings 14 law 0 odds 0 warm 10 chill 5; villager cold 10 shy 99;"
                + "villager cold 30 shy 99;");
        due("plan(1) from the pump", y.plan(1), 75);
        due("plans(1) from the pump", y.plans(1), 2);
        due("planned(1, .)", over(0, 1, k -> y.planned(1, k)), -1, 0);
        due("plan(4): -11 11, 15 20, 20 10, 25 0, 30 0", y.plan(4), 40 + 35 + 30 + 25 + 30);
        due("plan(5)", y.plan(5), NO);
        WaistcoatGreen z = Check.told("green mornings 4 law 0 odds 0 warm 0 chill 0; villager cold 10 shy 0;"
                + "villager cold 30 shy 0; villager cold 30 shy 0; hand 1 2;");
        due("all rows are alike: 1 + 3, 4 + 1 + 4, 9 + 1 + 8, 18 + 1 + 16", over(1, 4, n -> z.plans(n)), 4, 9, 18, 35);
        due("the pump goes ahead", over(0, 4, k -> z.planned(4, k)), -1, -1, -1, -1, -1);
    }

    // ---- 49 to 56 ----

    private static void seen(WaistcoatGreen x, int slot, int width, long... numbers) {
        due("row", x.row(slot, width, numbers.length), 0);
        for (int i = 0; i < numbers.length; i++) {
            due("write", x.write(slot, i, numbers[i]), 0);
        }
    }

    private static void seen() {
        // The pump's goes to the colder of the two, to the first if they are alike, when one is as cold as 20 by 5 a morning.
        WaistcoatGreen x = Check.told("green mornings 3 law 0 odds 0 warm 0 chill 5; villager cold 12 shy 20;"
                + "villager cold 13 shy 20;");
        due("has", over(0, 3, m -> x.has(m)), -1, -1, -1, 1);
        seen(x, 0, 0);
        due("a row of none", new long[] {x.colds(0, 0), x.low(0, 0), x.high(0, 0)}, 61, 0, 60);
        due("leaves: 10 (0 .. 12) 12: 48 of 13 .. 60", x.leaves(0, 0), 41);
        due("ask: has(1) 41 of 20 .. 60 and 20", x.ask(0, 0), 1);
        seen(x, 1, 0, 1, -1);
        due("the pump on 1", new long[] {x.colds(1, 0), x.low(1, 0), x.high(1, 0)}, 20, 0, 19);
        due("ask: 15 .. 19 of these on 2; 13 .. 19 on 3", x.ask(1, 0), 3);
        due("leaves", x.leaves(1, 0), 13);
        seen(x, 2, 3, 2, -1, 3, 0);
        due("13, 14", new long[] {x.colds(2, 0), x.low(2, 0), x.high(2, 0)}, 2, 13, 14);
        due("nothing more to ask", new long[] {x.ask(2, 0), x.leaves(2, 0)}, -1, 2);
        seen(x, 3, 2, 0, 1);
        due("none", new long[] {x.colds(3, 0), x.low(3, 0), x.high(3, 0)}, 0, -1, -1);
        due("none to ask of", new long[] {x.ask(3, 0), x.leaves(3, 0)}, -1, 0);
        seen(x, 3, 2, 3, 1, 3, 0);
        due("one and another", x.colds(3, 0), 0);
        due("cold as told stays", x.villager(0, 0), 12);
        x.gives(0, 0);
        seen(x, 1, 1, 1, 0);
        due("a gift holds", x.colds(1, 1), 61);
    }

    private static void seenRefused() {
        WaistcoatGreen x = Check.told(FOUR);
        due("nothing", new long[] {x.colds(0, 0), x.low(1, 1), x.high(2, 2), x.ask(3, 3), x.leaves(0, 0), x.laws(0)},
                -6, -6, -6, -6, -6, -6);
        due("no such slot", new long[] {x.colds(4, 0), x.low(-1, 0), x.high(4, 0), x.ask(4, 0), x.leaves(4, 0),
            x.laws(4), x.laws(-1)}, NO, NO, NO, NO, NO, NO, NO);
        due("no such villager, ahead of nothing", new long[] {x.colds(0, 4), x.low(0, -1), x.high(0, 4), x.ask(0, 4),
            x.leaves(0, 4)}, NO, NO, NO, NO, NO);
        long[][] bad = {{1}, {0, 0, 1}, {5, 0}, {-1, 0}, {0, 4}, {0, -2}, {0, 1, 4294967296L, 0}, {0, 4294967297L}};
        for (long[] row : bad) {
            seen(x, 0, 3, row);
            due("a number none such", new long[] {x.colds(0, 0), x.low(0, 0), x.high(0, 0), x.ask(0, 0),
                x.leaves(0, 0), x.laws(0)}, NO, NO, NO, NO, NO, NO);
        }
        seen(x, 0, 0, 4, 2);
        due("the last morning is one", x.laws(0) & 1, 1);
        seen(x, 0, 0, 260, -254);
        due("cut to a byte they are such", x.laws(0) & 1, 1);
    }

    private static void byLaw() {
        WaistcoatGreen x = byLaws(0, 0, 25);
        seen(x, 0, 0, 1, 4);
        due("laws", x.laws(0), 4);
        seen(x, 0, 0, 0, 0);
        due("laws", x.laws(0), 15);
        seen(x, 0, 0, 1, 2, 0, 0);
        due("laws", x.laws(0), 8);
        seen(x, 0, 0, 0, 1);
        due("laws", x.laws(0), 0);
        due("by: four are 1 colder, one 5 less: 125, 124, 123", over(-1, 4, l -> x.by(l)),
                NO, 372, 372, 372, 372, NO);
        due("law() the least of several", x.law(), 0);
        WaistcoatGreen y = Check.told("green mornings 2 law 1 odds 0 warm 40 chill 0; villager cold 0 shy 0 wears;"
                + "villager cold 10 shy 0; villager cold 30 shy 0; villager cold 40 shy 0; hand 0 1; hand 0 2; hand 2 3;");
        due("by: 80 50 10, 80 70 70, 80 40 10, 80 70 70", over(0, 3, l -> y.by(l)), 140, 220, 130, 220);
        due("law()", y.law(), 2);
        due("sum() is by the one told", y.sum(), 220);
    }

    // ---- 57 to 60 ----

    private static void sets() {
        WaistcoatGreen x = Check.told("green mornings 3 law 0 odds 0 warm 0 chill 5; villager cold 30 shy 10;"
                + "villager cold 20 shy 30; villager cold 0 shy 99 wears;");
        due("worth", over(-1, 8, s -> x.worth(s)), NO, 0, 3, 1, 3, 4, 4, 4, 4, NO);
        // Orders: 2 first 4 in all; by thirds. 0: (3 + 3 + 2 + 0 + 0 + 0) / 6, 1: (1 + 1) / 6, 2: 24 - 8 - 2 = 14 / 6.
        due("share above", over(-1, 3, v -> x.share(v, 0)), -1000000, 4, 1, 7, -1000000);
        due("share below", over(-1, 3, v -> x.share(v, 1)), -1000000, 3, 3, 3, -1000000);
        due("share of another what", new long[] {x.share(0, 2), x.share(0, -1)}, -1000000, -1000000);
        x.gives(1, 0);
        due("given to one of the set", x.worth(2), 3);
        x.gives(0, 0);
        due("the latest of the set holds, not the latest", x.worth(2), 3);
        due("else law", x.worth(0), 0);
        WaistcoatGreen y = Check.told("green mornings 3 law 0 odds 0 warm 0 chill 0; villager cold 1 shy 2;"
                + "villager cold 1 shy 1;");
        due("nothing is 0 / 1", new long[] {y.share(0, 0), y.share(0, 1)}, 0, 1);
        due("all is 3 / 1", new long[] {y.share(1, 0), y.share(1, 1)}, 3, 1);
    }

    private static void refusing() {
        WaistcoatGreen x = Check.told("green mornings 1 law 0 odds 0 warm 10 chill 5; villager cold 30 shy 0;"
                + "villager cold 20 shy 0; hand 0 1;");
        due("wins(0, 1)", new long[] {x.wins(0, 1, 0, 0), x.wins(0, 1, 1, 0), x.wins(0, 1, 0, 1), x.wins(0, 1, 1, 1)},
                950, 955, 950, 955);
        due("wins(1, 0)", new long[] {x.wins(1, 0, 0, 0), x.wins(1, 0, 1, 0), x.wins(1, 0, 0, 1), x.wins(1, 0, 1, 1)},
                955, 975, 970, 975);
        due("both at rest", x.rests(0, 1), 8);
        due("turned", x.rests(1, 0), 8);
        due("refused", new long[] {x.wins(0, 0, 0, 0), x.wins(0, 2, 0, 0), x.wins(-1, 0, 0, 0), x.wins(0, 1, 2, 0),
            x.wins(0, 1, 0, -1), x.wins(0, 1, 0, 2), x.wins(0, 1, -1, 0)},
                -10000, -10000, -10000, -10000, -10000, -10000, -10000);
        due("refused", new long[] {x.rests(0, 0), x.rests(0, 2), x.rests(-1, 0)}, NO, NO, NO);
        WaistcoatGreen y = Check.told("green mornings 1 law 0 odds 0 warm 20 chill 10; villager cold 30 shy 0;"
                + "villager cold 20 shy 0;");
        due("the other one at rest", y.rests(0, 1), 4);
        due("turned, the first one", y.rests(1, 0), 2);
        y.gives(0, 0);
        due("given to one who refuses he has it", y.wins(0, 1, 1, 0), 1000 - 30 - 10 + 20);
        WaistcoatGreen z = Check.told("green mornings 14 law 0 odds 0 warm 0 chill 20; villager cold 60 shy 99 wears;"
                + "villager cold 60 shy 99;");
        due("who has it at first and refuses has it", z.wins(0, 1, 1, 0), 1000 - 15 * 60 + 20);
        due("below 0", z.wins(1, 0, 0, 0), 1000 - 60 - 80 - 13 * 99);
        WaistcoatGreen w = Check.told("green mornings 1 law 0 odds 0 warm 15 chill 5; villager cold 15 shy 0;"
                + "villager cold 14 shy 99;");
        due("as much by either choice: 15 0, 15 20 and 20 more", new long[] {w.wins(0, 1, 0, 0), w.wins(0, 1, 1, 0)},
                985, 985);
        due("neither more: both are at rest", w.rests(0, 1), 4 + 8);
        due("turned", w.rests(1, 0), 2 + 8);
        WaistcoatGreen u = Check.told("green mornings 2 law 0 odds 0 warm 40 chill 20; villager cold 40 shy 0;"
                + "villager cold 30 shy 0; hand 0 1;");
        due("wins(0, 1): 40 0 20, 40 60 80", new long[] {u.wins(0, 1, 0, 0), u.wins(0, 1, 1, 0)}, 940, 840);
        due("wins(1, 0): 30 50 10, 30 50 70", new long[] {u.wins(1, 0, 0, 0), u.wins(1, 0, 1, 0)}, 910, 870);
        due("neither refuses", u.rests(0, 1), 1);
    }

    // ---- 61, 62, 67, 68 ----

    private static void chance() {
        WaistcoatGreen x = Check.told("green mornings 9 law 0 odds 3 warm 4 chill 0; villager cold 10 shy 14;");
        due("chance(0, ., 0)", over(-1, 2, m -> x.chance(0, m, 0)), NO, NO, 0, 3);
        due("chance(0, ., 1)", over(-1, 2, m -> x.chance(0, m, 1)), NO, NO, 1, 10);
        due("by 3: 1 less 0.49", new long[] {x.chance(0, 3, 0), x.chance(0, 3, 1)}, 51, 100);
        due("by 8: 1 less 0.7 to the 7th", new long[] {x.chance(0, 8, 0), x.chance(0, 8, 1)}, 9176457, 10000000);
        due("none such", new long[] {x.chance(0, 9, 0), x.chance(1, 1, 0), x.chance(-1, 1, 0), x.chance(0, 1, 2),
            x.chance(0, 1, -1)}, NO, NO, NO, NO, NO);
        due("mean(1): 10 and 15", new long[] {x.mean(1, 0), x.mean(1, 1)}, 23, 2);
        due("mean(2): 0.3 of 11, 0.7 of 11.5", new long[] {x.mean(2, 0), x.mean(2, 1)}, 227, 20);
        due("none such", new long[] {x.mean(0, 0), x.mean(9, 0), x.mean(1, 2), x.mean(1, -1), x.mean(-1, 0)},
                NO, NO, NO, NO, NO);
        due("the green's own winter is never hard", x.cold(0, 9), 10);
        WaistcoatGreen y = Check.told("green mornings 2 law 0 odds 10 warm 4 chill 20; villager cold 60 shy 99;"
                + "villager cold 60 shy 99 wears; frost 18 at 1;");
        due("always hard, 99 at most", new long[] {y.mean(1, 0), y.mean(1, 1)}, 99 + 56, 1);
        due("surely", new long[] {y.chance(1, 2, 0), y.chance(1, 2, 1), y.chance(0, 2, 0), y.chance(0, 2, 1)}, 1, 1, 0, 1);
        due("a morning there is not", y.mean(3, 0), NO);
        y.sings(0, 1);
        due("songs hold", y.mean(1, 0), 89 + 56);
        y.gives(0, 0);
        due("gifts hold", new long[] {y.chance(0, 1, 0), y.mean(1, 0)}, 1, 46 + 99);
        // One has it for good, 60 less 8. Each of six: 92 by no hard morning, 97 by one, else 99, in 8 of odds 3.
        WaistcoatGreen z = Check.told("green mornings 8 law 0 odds 3 warm 1 chill 4;"
                + "villager cold 60 shy 99;".repeat(6) + "villager cold 60 shy 99 wears;");
        long six = 6 * (92 * 5764801L + 97 * 19765032L + 99 * 74470167L);
        due("mean above an int", z.mean(8, 0), (six + 52 * 100000000L) / 2);
        due("mean below", z.mean(8, 1), 50000000);
    }

    private static void draws() {
        // Draws from 0: 0 1 2 .. are x / 65536 of 12345, 1406932606, 654583775, 1449466924, ..
        WaistcoatGreen x = Check.told("green mornings 4 law 0 odds 9 warm 4 chill 0; villager cold 10 shy 14;");
        due("draws 0, 8, 8, 7 are below 9", x.drawn(0, 0), 2 + 4 + 8 + 16);
        WaistcoatGreen y = Check.told("green mornings 4 law 0 odds 8 warm 4 chill 0; villager cold 10 shy 14;");
        due("0 and 7 are below 8", y.drawn(0, 0), 2 + 16);
        due("who has it", y.drawn(0, 1), 0);
        WaistcoatGreen z = Check.told("green mornings 4 law 0 odds 0 warm 4 chill 0; villager cold 10 shy 14;");
        due("none is below 0", new long[] {z.drawn(0, 0), z.drawn(0, 1)}, 0, -1);
        WaistcoatGreen last = Check.told("green mornings 1 law 0 odds 10 warm 4 chill 0; villager cold 10 shy 14;");
        due("all are below 10, too late to tell", new long[] {last.drawn(7, 0), last.drawn(7, 1)}, 2, -1);
        due("seeds", new long[] {x.drawn(2000000000, 0) & 1, x.drawn(2000000001, 0), x.drawn(-1, 0), x.drawn(0, 2),
            x.drawn(0, -1)}, 0, NO, NO, NO, NO);
        due("luck: each", x.luck(0, 20, 0), lucky(x, 0, 20));
        due("luck: some", y.luck(77, 13, 0), lucky(y, 77, 13));
        due("luck: none", z.luck(5, 20, 0), 0);
        due("luck from the last seed on", y.luck(2000000000, 20, 0) >= 0 ? 1 : 0, 1);
        due("luck refused", new long[] {x.luck(0, 0, 0), x.luck(0, 21, 0), x.luck(0, 1, 1), x.luck(0, 1, -1),
            x.luck(-1, 1, 0), x.luck(2000000001, 1, 0)}, NO, NO, NO, NO, NO, NO);
        WaistcoatGreen first = Check.told("green mornings 1 law 0 odds 5 warm 4 chill 0; villager cold 10 shy 14 wears;"
                + "villager cold 30 shy 0; hand 0 1;");
        due("ever: on the first morning, too", first.luck(3, 7, 0), 7);
    }

    /** He has it on the last morning if one of those ahead of it was hard; he keeps it then. */
    private static int lucky(WaistcoatGreen x, int seed, int n) {
        int times = 0;
        for (int i = 0; i < n; i++) {
            times += (x.drawn(seed + i, 0) & 14) != 0 ? 1 : 0;
        }
        return times;
    }

    // ---- 69 to 72 ----

    private static void rates() {
        WaistcoatGreen x = Check.told(FOUR);
        due("rate", x.rate(0, 99), 10);
        due("rate", x.rate(0, 23), 99);
        due("shy", x.villager(0, 1), 23);
        due("has: 22 on 1, 34 on 2", over(0, 4, m -> x.has(m)), 1, 1, 1, 0, 0);
        due("rate refused", new long[] {x.rate(4, 0), x.rate(-1, 0), x.rate(0, -1), x.rate(0, 100)}, NO, NO, NO, NO);
        x.sings(0, 0);
        due("behind acts", x.rate(0, 10), -5);
        due("none such ahead of that", x.rate(0, 100), NO);
        x.undo();
        due("without again", x.rate(0, 10), 23);
        due("has", over(0, 4, m -> x.has(m)), 1, 1, 0, 1, 2);
    }

    private static void counts() {
        WaistcoatGreen x = Check.told("green mornings 13 law 3 odds 9 warm 31 chill 17; villager cold 1 shy 1;"
                + "villager cold 1 shy 1; hand 0 1; hand 1 0; hand 0 1; frost 1 at 14;");
        x.row(1, 0, 0);
        x.row(3, 0, 5);
        x.row(3, 1, 5);
        x.feed(0, 0, 0, 0, 0);
        x.sings(0, 0);
        x.gives(0, 0);
        due("count", over(-1, 12, w -> x.count(w)), -1, 13, 3, 9, 31, 17, 2, 3, 1, 2, 7, 20, 2, -1);
        WaistcoatGreen y = new WaistcoatGreen();
        due("count of a new one", over(-1, 12, w -> y.count(w)), -1, 0, 0, 0, 0, 0, 0, 0, 0, 0, 0, 0, 0, -1);
        due("count far off", new long[] {x.count(Integer.MAX_VALUE), x.count(Integer.MIN_VALUE)}, -1, -1);
    }

    private static void images() {
        WaistcoatGreen x = new WaistcoatGreen();
        due("image", over(-1, 3, k -> x.back(k)), NO, -6, -6, -6, NO);
        due("image of no green", x.image(2), 0);
        due("no such image", new long[] {x.image(3), x.image(-1)}, NO, NO);
        Check.type(x, FOUR);
        x.green();
        x.rate(0, 23);
        x.gives(3, 0);
        x.row(0, 0, 1);
        due("image", x.image(0), 0);
        x.undo();
        x.rate(0, 10);
        x.sings(1, 1);
        due("image", x.image(1), 0);
        Check.type(x, BARE);
        x.green();
        x.feed(0, 0, 0, 0, 0);
        due("back", x.back(0), 0);
        due("shy, acts, lines, tape, slots", new long[] {x.villager(0, 1), x.count(8), x.count(9), x.count(10), x.count(11)},
                23, 1, 9, 20, 1);
        due("has", over(0, 4, m -> x.has(m)), 1, 3, 3, 3, 3);
        due("undo", x.undo(), 0);
        due("back again", x.back(0), 0);
        due("what was undone is there", x.count(8), 1);
        due("back", x.back(1), 0);
        due("shy, cold, hands, frosts", new long[] {x.villager(0, 1), x.cold(1, 1), x.hands(1), x.frost(2)}, 10, 10, 5, 12);
        due("image over another", x.image(0), 0);
        x.anew();
        due("back", x.back(0), 0);
        due("cold", x.cold(1, 1), 10);
        due("back to no green", x.back(2), 0);
        due("has, count", new long[] {x.has(0), x.count(9), x.count(8)}, NO, 0, 0);
    }

    // ---- 73 to 75 ----

    private static void slots() {
        WaistcoatGreen x = Check.told(BARE + "villager cold 1 shy 0; villager cold 0 shy 99;");
        due("row refused", new long[] {x.row(-1, 0, 1), x.row(4, 0, 1), x.row(0, -1, 1), x.row(0, 4, 1), x.row(0, 0, 61)},
                NO, NO, NO, NO, NO);
        due("row refused, below 0 last", new long[] {x.row(0, 0, -1), x.row(4, 0, -1), x.row(0, 4, -1),
            x.row(0, 0, Integer.MIN_VALUE), x.row(0, 0, Integer.MAX_VALUE)}, -3, NO, NO, -3, NO);
        due("nothing yet", x.count(11), 0);
        due("write to nothing", new long[] {x.write(0, 0, 1), x.write(0, -1, 1), x.write(4, 0, 1), x.write(-1, 0, 1)},
                -6, -6, NO, NO);
        due("row", new long[] {x.row(0, 3, 60), x.row(1, 0, 0)}, 0, 0);
        due("write", new long[] {x.write(0, 0, 1), x.write(0, 59, 1), x.write(0, 60, 1), x.write(0, -1, 1),
            x.write(1, 0, 1)}, 0, 0, -7, -7, -7);
        due("row below 0 leaves it", x.row(0, 0, -1), -3);
        due("it is still long", x.write(0, 59, 2), 0);
        due("another row", x.row(0, 2, 2), 0);
        due("it is short", x.write(0, 2, 2), -7);
        // Of two numbers, all 0: on morning 0 villager 0 has it, which no law tells; the pump is -1.
        due("all 0", x.laws(0), 0);
        x.write(0, 1, -1);
        due("the pump on 0", x.laws(0), 15);
        x.row(0, 2, 2);
        due("all 0 anew", x.laws(0), 0);
        long[] pumps = {255, 65535, 4294967295L, -1};
        for (int width = 0; width < 4; width++) {
            x.row(2, width, 2);
            for (int i = 0; i < 4; i++) {
                x.write(2, 1, pumps[i]);
                due("width " + width + " of " + pumps[i], x.laws(2), i == 3 || i >= width ? 15 : NO);
            }
        }
    }

    private static void pastes() {
        WaistcoatGreen x = Check.told(BARE + "villager cold 1 shy 0; villager cold 0 shy 99;");
        x.row(0, 0, 6);
        x.row(1, 0, 4);
        x.row(2, 1, 4);
        due("paste refused", new long[] {x.paste(4, 0, 0, 0, 1), x.paste(0, 0, 4, 0, 1), x.paste(-1, 0, 0, 0, 1),
            x.paste(0, 0, -1, 0, 1)}, NO, NO, NO, NO);
        due("nothing", new long[] {x.paste(3, 0, 0, 0, 1), x.paste(0, 0, 3, 0, 1), x.paste(3, -1, 3, 0, 1)}, -6, -6, -6);
        due("unlike", new long[] {x.paste(0, 0, 2, 0, 1), x.paste(2, 0, 0, -1, 1), x.paste(2, 9, 0, 9, 9)}, -8, -8, -8);
        due("beyond", new long[] {x.paste(0, 3, 1, 0, 4), x.paste(0, 0, 1, 1, 4), x.paste(0, -1, 1, 0, 1),
            x.paste(0, 0, 1, -1, 1), x.paste(0, 0, 1, 0, -1), x.paste(0, -1, 1, 0, 0),
            x.paste(0, Integer.MAX_VALUE, 1, 0, Integer.MAX_VALUE), x.paste(0, 1, 1, 1, Integer.MAX_VALUE)},
                -7, -7, -7, -7, -7, -7, -7, -7);
        due("none at the very end", x.paste(0, 6, 1, 4, 0), 0);
        due("beyond, and nothing happens", x.laws(1), 0);
        // 0 -1 3 0: the pump on 0, villager 0 on 3.
        x.write(0, 1, -1);
        x.write(0, 2, 3);
        due("paste", x.paste(0, 0, 1, 0, 4), 0);
        due("laws of what was put", x.laws(1), 15);
        due("paste into its own, to the right", x.paste(0, 0, 0, 2, 4), 0);
        due("0 -1 0 -1 3 0", x.laws(0), 15);
        x.write(0, 4, 9);
        due("0 -1 0 -1 9 0", x.laws(0), NO);
        due("paste into its own, to the left", x.paste(0, 1, 0, 0, 3), 0);
        due("-1 0 -1 -1 9 0", x.laws(0), NO);
        x.write(0, 0, 0);
        x.write(0, 1, -1);
        x.write(0, 2, 0);
        x.write(0, 4, 3);
        due("0 -1 0 -1 3 0", x.laws(0), 15);
    }

    // ---- 1 ----

    private static void nothingTold() {
        WaistcoatGreen x = new WaistcoatGreen();
        x.row(0, 0, 0);
        due("without a green", new long[] {x.villager(0, 0), x.hands(0), x.far(0, 0), x.reach(0), x.cover(), x.covers(),
            x.has(0), x.cold(0, 0), x.takes(0), x.coldest(0), x.all(0), x.passes(0), x.worn(0), x.gets(0), x.keeps(0),
            x.pump(), x.right(), x.stops(), x.round(), x.suffers(0)},
                NO, NO, NO, NO, NO, NO, NO, NO, NO, NO, NO, NO, NO, NO, NO, NO, NO, NO, NO, NO);
        due("without a green", new long[] {x.sum(), x.worst(), x.freezes(0, 0), x.blue(), x.alike(0), x.colder(0, 0),
            x.near(0), x.warmest(0), x.frost(0), x.frost(1), x.jumps(), x.longest(), x.fair(), x.rises(0), x.waits(0),
            x.returns(0), x.lies(0), x.gains(0), x.liars(), x.start()},
                NO, NO, NO, NO, NO, NO, NO, NO, NO, NO, NO, NO, NO, NO, NO, NO, NO, NO, NO, NO);
        due("without a green", new long[] {x.join(), x.plan(1), x.planned(1, 0), x.plans(1), x.colds(0, 0), x.low(0, 0),
            x.high(0, 0), x.ask(0, 0), x.leaves(0, 0), x.laws(0), x.laws(1), x.by(0), x.law(), x.worth(0), x.rests(0, 1),
            x.chance(0, 1, 0), x.mean(1, 0), x.gives(0, 0), x.sings(0, 0), x.undo()},
                NO, NO, NO, NO, NO, NO, NO, NO, NO, NO, NO, NO, NO, NO, NO, NO, NO, NO, NO, NO);
        due("without a green", new long[] {x.anew(), x.drawn(0, 0), x.drawn(0, 1), x.luck(0, 1, 0), x.rate(0, 0),
            x.share(0, 0), x.wins(0, 1, 0, 0)}, NO, NO, NO, NO, NO, -1000000, -10000);
    }
}

import java.util.function.IntUnaryOperator;
import java.util.stream.IntStream;

/** Boundaries of promises 6 to 40, and of terms II and III. */
final class WinterBounds {
    private static final int NO = -2;
    private static final int LOW = Integer.MIN_VALUE;
    private static final int HIGH = Integer.MAX_VALUE;

    private WinterBounds() {
    }

    static void run() {
        fullGreen();
        fullMornings();
        fullVillagers();
        fullInAll();
        leastGreen();
        nobody();
        oneWay();
        covers();
        refusedVillagers();
        refusedMornings();
        refusedPairs();
        asColdAsShy();
        colderThanHe();
        fromPump();
        firstOfSeveral();
        overWhomever();
        ninetyNine();
        nought();
        songs();
        frostsOfMornings();
        givenMornings();
        tiesOfMany();
        firstAndLast();
        runsOfMornings();
    }

    private static long[] over(int from, int to, IntUnaryOperator call) {
        return IntStream.rangeClosed(from, to).mapToLong(i -> call.applyAsInt(i)).toArray();
    }

    private static void due(int promise, String call, long got, long want) {
        Check.due(promise, call, got, want);
    }

    private static void due(int promise, String call, long[] got, long... want) {
        Check.due(promise, call, got, want);
    }

    // ---- the full green ----

    private static void fullGreen() {
        WaistcoatGreen x = Check.told(Texts.FULL);
        due(6, "villager(., 0)", over(-1, 7, v -> x.villager(v, 0)), NO, 0, 10, 20, 30, 40, 50, 60, NO);
        due(6, "villager(., 1)", over(-1, 7, v -> x.villager(v, 1)), NO, 99, 99, 99, 99, 99, 99, 99, NO);
        due(7, "hands", over(-1, 7, v -> x.hands(v)), NO, 126, 13, 11, 23, 41, 81, 33, NO);
        due(8, "far(1, .)", over(-1, 7, v -> x.far(1, v)), NO, 1, 0, 1, 1, 2, 2, 2, NO);
        due(8, "far(., 6)", over(-1, 7, v -> x.far(v, 6)), NO, 1, 2, 2, 2, 2, 1, 0, NO);
        due(9, "reach", over(-1, 7, v -> x.reach(v)), NO, 127, 127, 127, 127, 127, 127, 127, NO);
        due(10, "cover()", x.cover(), 1);
        due(11, "covers()", x.covers(), 1);
        due(12, "has", over(-1, 15, m -> x.has(m)), NO, 6, 6, 6, 6, 5, 4, 0, 1, 2, 0, 1, 2, 0, 1, 2, NO);
        for (int m = 0; m <= 14; m++) {
            for (int v = 0; v < 7; v++) {
                due(13, "cold(" + v + ", " + m + ")", x.cold(v, m), Texts.FULL_COLD[m][v]);
            }
        }
    }

    private static void fullMornings() {
        WaistcoatGreen x = Check.told(Texts.FULL);
        due(14, "takes", over(-1, 15, m -> x.takes(m)),
                NO, 0, 0, 0, 48, 28, 15, 46, 60, 121, 122, 124, 121, 122, 124, 123, NO);
        due(15, "coldest", over(-1, 15, m -> x.coldest(m)), NO, 6, 5, 5, 4, 2, 0, 1, 2, 0, 1, 2, 0, 1, 2, 0, NO);
        due(16, "all", over(-1, 15, m -> x.all(m)), over(-1, 15, WinterBounds::fullAll));
        due(17, "passes", over(-1, 15, m -> x.passes(m)), NO, -1, -1, -1, 5, 4, 0, 1, 2, 0, 1, 2, 0, 1, 2, NO, NO);
        due(30, "alike(0 .. 5)", over(-1, 5, m -> x.alike(m)), NO, 0, 1, 0, 1, 2, 6);
        due(30, "alike(14)", over(14, 15, m -> x.alike(m)), 9, NO);
        due(32, "near", over(-1, 4, m -> x.near(m)), NO, 0, 0, 0, 32, 16);
        due(32, "near(14)", over(14, 15, m -> x.near(m)), 11, NO);
        due(33, "warmest", over(-1, 15, m -> x.warmest(m)), NO, 0, 0, 6, 6, 6, 6, 0, 1, 2, 0, 1, 2, 0, 1, 2, NO);
        due(34, "frost", over(-1, 2, m -> x.frost(m)), NO, NO, 20, 20);
        due(34, "frost of eight", over(13, 15, m -> x.frost(m)), 20, 340, NO);
        due(31, "colder(0, .)", over(-1, 1, m -> x.colder(0, m)), NO, 126, 62);
        due(31, "colder(., 14)", over(-1, 7, v -> x.colder(v, 14)), NO, 0, 0, 123, 0, 0, 0, 0, NO);
        due(31, "colder(2, .)", over(14, 15, m -> x.colder(2, m)), 123, NO);
    }

    private static int fullAll(int m) {
        return m < 0 || m > 14 ? NO : IntStream.of(Texts.FULL_COLD[m]).sum();
    }

    private static int fullSuffered(int v) {
        return v < 0 || v > 6 ? NO : IntStream.rangeClosed(0, 14).map(m -> Texts.FULL_COLD[m][v]).sum();
    }

    private static void fullVillagers() {
        WaistcoatGreen x = Check.told(Texts.FULL);
        due(18, "worn", over(-1, 7, v -> x.worn(v)), NO, 3, 3, 3, 0, 1, 1, 4, NO);
        due(19, "gets", over(-1, 7, v -> x.gets(v)), NO, 6, 7, 8, -1, 5, 4, 0, NO);
        due(20, "keeps", over(-1, 7, v -> x.keeps(v)), NO, 1, 1, 1, 0, 1, 1, 4, NO);
        due(25, "suffers", over(-1, 7, v -> x.suffers(v)), over(-1, 7, WinterBounds::fullSuffered));
        due(28, "freezes(., 99)", over(-1, 7, v -> x.freezes(v, 99)), NO, 5, 5, 4, 4, 3, 3, 8, NO);
        due(28, "freezes(., 0)", over(-1, 7, v -> x.freezes(v, 0)), NO, 0, 0, 0, 0, 0, 0, 0, NO);
        due(28, "freezes(6, 59 .. 61)", over(59, 61, n -> x.freezes(6, n)), 0, 0, 7);
        due(28, "freezes(0, 98 .. 100)", over(98, 100, n -> x.freezes(0, n)), 5, 5, NO);
        due(28, "freezes(0, -1 .. 1)", over(-1, 1, n -> x.freezes(0, n)), NO, 0, 1);
        due(38, "rises", over(-1, 7, v -> x.rises(v)), NO, 11, 10, 8, 4, 5, 5, 5, NO);
        due(39, "waits", over(-1, 7, v -> x.waits(v)), NO, 1, 2, 4, 11, 2, 1, 0, NO);
        due(40, "returns", over(-1, 7, v -> x.returns(v)), NO, 2, 2, 2, 0, 0, 0, 0, NO);
    }

    private static void fullInAll() {
        WaistcoatGreen x = Check.told(Texts.FULL);
        due(21, "pump()", x.pump(), 0);
        due(22, "right()", x.right(), 1);
        due(23, "stops()", x.stops(), 14);
        due(24, "round()", x.round(), 119);
        due(26, "sum()", x.sum(), IntStream.rangeClosed(0, 6).map(WinterBounds::fullSuffered).sum());
        due(27, "worst(): 1338 is more than 1329 of 3", x.worst(), 5);
        due(29, "blue() of several who come to 99", x.blue(), 0);
        due(35, "jumps()", x.jumps(), 11);
        due(36, "longest()", x.longest(), 4);
        due(37, "fair()", x.fair(), 1338 - 973);
    }

    // ---- the least greens ----

    private static void leastGreen() {
        WaistcoatGreen x = Check.told(Texts.ONE);
        due(6, "villager", new long[] {x.villager(0, 0), x.villager(0, 1), x.villager(1, 0)}, 0, 0, NO);
        due(7, "hands", over(0, 1, v -> x.hands(v)), 0, NO);
        due(8, "far", new long[] {x.far(0, 0), x.far(0, 1), x.far(1, 0)}, 0, NO, NO);
        due(9, "reach", over(0, 1, v -> x.reach(v)), 1, NO);
        due(10, "cover()", x.cover(), 1);
        due(11, "covers()", x.covers(), 1);
        due(12, "has", over(-1, 2, m -> x.has(m)), NO, -1, 0, NO);
        due(13, "cold", over(-1, 2, m -> x.cold(0, m)), NO, 0, 0, NO);
        due(14, "takes", over(-1, 2, m -> x.takes(m)), NO, 1, 1, NO);
        due(15, "coldest", over(-1, 2, m -> x.coldest(m)), NO, 0, 0, NO);
        due(16, "all", over(-1, 2, m -> x.all(m)), NO, 0, 0, NO);
        due(17, "passes", over(-1, 2, m -> x.passes(m)), NO, 0, NO, NO);
        due(18, "worn(0)", x.worn(0), 1);
        due(19, "gets(0)", x.gets(0), 1);
        due(20, "keeps(0)", x.keeps(0), 1);
        due(21, "pump()", x.pump(), 1);
        due(22, "right()", x.right(), 2);
        due(23, "stops()", x.stops(), 1);
        due(24, "round()", x.round(), 1);
        due(25, "suffers(0)", x.suffers(0), 0);
        due(28, "freezes(0, 0), (0, 1)", new long[] {x.freezes(0, 0), x.freezes(0, 1)}, 0, -1);
        due(32, "near", over(-1, 2, m -> x.near(m)), NO, 1, 0, NO);
        due(34, "frost", over(-1, 2, m -> x.frost(m)), NO, NO, 0, NO);
        due(35, "jumps()", x.jumps(), 1);
        due(36, "longest()", x.longest(), 1);
        due(37, "fair() of one", x.fair(), 0);
        due(38, "rises(0) of none colder", x.rises(0), 0);
        due(39, "waits(0)", x.waits(0), 1);
        due(40, "returns(0)", x.returns(0), 0);
    }

    private static void nobody() {
        WaistcoatGreen x = Check.told(Texts.LEAST);
        due(6, "villager(0, .)", over(0, 1, w -> x.villager(0, w)), NO, NO);
        due(10, "cover()", x.cover(), 0);
        due(11, "covers()", x.covers(), 0);
        due(12, "has", over(-1, 2, m -> x.has(m)), NO, -1, -1, NO);
        due(13, "cold(0, 0)", x.cold(0, 0), NO);
        due(14, "takes", over(-1, 2, m -> x.takes(m)), NO, 0, 0, NO);
        due(15, "coldest", over(-1, 2, m -> x.coldest(m)), NO, -1, -1, NO);
        due(16, "all", over(-1, 2, m -> x.all(m)), NO, 0, 0, NO);
        due(17, "passes", over(-1, 2, m -> x.passes(m)), NO, -1, NO, NO);
        due(21, "pump()", x.pump(), 2);
        due(22, "right()", x.right(), 0);
        due(23, "stops()", x.stops(), 0);
        due(24, "round()", x.round(), 0);
        due(26, "sum()", x.sum(), 0);
        due(27, "worst()", x.worst(), -1);
        due(29, "blue()", x.blue(), -1);
        due(30, "alike", over(-1, 2, m -> x.alike(m)), NO, 0, 0, NO);
        due(32, "near", over(-1, 2, m -> x.near(m)), NO, 0, 0, NO);
        due(33, "warmest", over(-1, 2, m -> x.warmest(m)), NO, -1, -1, NO);
        due(34, "frost", over(-1, 2, m -> x.frost(m)), NO, NO, 0, NO);
        due(35, "jumps()", x.jumps(), 0);
        due(36, "longest()", x.longest(), 2);
        due(37, "fair()", x.fair(), 0);
    }

    // ---- hands ----

    private static void oneWay() {
        String seven = Texts.LEAST + Texts.villager(1, 1).repeat(7);
        WaistcoatGreen line = Check.told(seven + "hand 0 1;hand 1 2;hand 3 2;hand 3 4;hand 5 4;hand 5 6;");
        due(8, "far(0, .) both ways", over(0, 6, v -> line.far(0, v)), 0, 1, 2, 3, 4, 5, 6);
        due(8, "far(6, .) both ways", over(0, 6, v -> line.far(6, v)), 6, 5, 4, 3, 2, 1, 0);
        due(9, "reach from the ends", new long[] {line.reach(0), line.reach(6)}, 127, 127);
        WaistcoatGreen parts = Check.told(seven + "hand 0 6;hand 2 4;hand 4 5;hand 4 5;");
        due(7, "hands", over(0, 6, v -> parts.hands(v)), 64, 0, 16, 0, 36, 16, 1);
        due(8, "far: none, himself, one, two", over(0, 6, v -> parts.far(2, v)), -1, -1, 0, -1, 1, 2, -1);
        due(9, "reach", over(0, 6, v -> parts.reach(v)), 65, 2, 52, 8, 52, 52, 65);
        WaistcoatGreen apart = Check.told(seven);
        due(7, "hands of none", over(0, 6, v -> apart.hands(v)), 0, 0, 0, 0, 0, 0, 0);
        due(8, "far of none", over(0, 6, v -> apart.far(3, v)), -1, -1, -1, 0, -1, -1, -1);
        due(9, "reach: himself", over(0, 6, v -> apart.reach(v)), 1, 2, 4, 8, 16, 32, 64);
    }

    private static void covers() {
        String seven = Texts.LEAST + Texts.villager(1, 1).repeat(7);
        WaistcoatGreen apart = Check.told(seven);
        due(10, "cover(): all of them", apart.cover(), 7);
        due(11, "covers(): all of them", apart.covers(), 127);
        WaistcoatGreen star = Check.told(seven + "hand 6 0;hand 6 1;hand 6 2;hand 6 3;hand 6 4;hand 6 5;");
        due(10, "cover(): the last one", star.cover(), 1);
        due(11, "covers(): the last one", star.covers(), 64);
        WaistcoatGreen pairs = Check.told(seven + "hand 0 1;hand 2 3;hand 4 5;");
        due(10, "cover(): one of each pair and the one alone", pairs.cover(), 4);
        due(11, "covers(): the least of several", pairs.covers(), 1 + 4 + 16 + 64);
        WaistcoatGreen two = Check.told(seven + "hand 0 1;hand 1 2;hand 2 3;hand 3 4;hand 4 5;hand 5 6;hand 6 0;");
        due(10, "cover() of a ring of seven", two.cover(), 3);
        due(11, "covers(): 0, 1 and 4 are least", two.covers(), 1 + 2 + 16);
    }

    // ---- refused ----

    private static void refusedVillagers() {
        WaistcoatGreen x = Check.told(Texts.FULL);
        for (int v : new int[] {-1, 7, 8, 31, 32, 33, LOW, HIGH, -2}) {
            due(6, "villager(" + v + ", .)", new long[] {x.villager(v, 0), x.villager(v, 1)}, NO, NO);
            due(7, "hands(" + v + ")", x.hands(v), NO);
            due(8, "far with " + v, new long[] {x.far(v, 0), x.far(0, v), x.far(v, v)}, NO, NO, NO);
            due(9, "reach(" + v + ")", x.reach(v), NO);
            due(13, "cold(" + v + ", 0)", x.cold(v, 0), NO);
            due(18, "worn(" + v + ")", x.worn(v), NO);
            due(19, "gets(" + v + ")", x.gets(v), NO);
            due(20, "keeps(" + v + ")", x.keeps(v), NO);
            due(25, "suffers(" + v + ")", x.suffers(v), NO);
            due(28, "freezes(" + v + ", 0)", x.freezes(v, 0), NO);
            due(31, "colder(" + v + ", 0)", x.colder(v, 0), NO);
            due(38, "rises(" + v + ")", x.rises(v), NO);
            due(39, "waits(" + v + ")", x.waits(v), NO);
            due(40, "returns(" + v + ")", x.returns(v), NO);
        }
    }

    private static void refusedMornings() {
        WaistcoatGreen x = Check.told(Texts.FULL);
        for (int m : new int[] {-1, 15, 16, LOW, HIGH, -2}) {
            due(12, "has(" + m + ")", x.has(m), NO);
            due(13, "cold(0, " + m + ")", x.cold(0, m), NO);
            due(14, "takes(" + m + ")", x.takes(m), NO);
            due(15, "coldest(" + m + ")", x.coldest(m), NO);
            due(16, "all(" + m + ")", x.all(m), NO);
            due(17, "passes(" + m + ")", x.passes(m), NO);
            due(30, "alike(" + m + ")", x.alike(m), NO);
            due(31, "colder(0, " + m + ")", x.colder(0, m), NO);
            due(32, "near(" + m + ")", x.near(m), NO);
            due(33, "warmest(" + m + ")", x.warmest(m), NO);
            due(34, "frost(" + m + ")", x.frost(m), NO);
        }
        due(17, "passes of the last", x.passes(14), NO);
        due(34, "frost of the first", x.frost(0), NO);
    }

    private static void refusedPairs() {
        WaistcoatGreen x = Check.told(Texts.FULL);
        for (int what : new int[] {-1, 2, LOW, HIGH}) {
            due(6, "villager(0, " + what + ")", x.villager(0, what), NO);
        }
        for (int n : new int[] {-1, 100, LOW, HIGH}) {
            due(28, "freezes(0, " + n + ")", x.freezes(0, n), NO);
        }
        due(13, "cold of neither", x.cold(7, 15), NO);
        due(28, "freezes of neither", x.freezes(-1, 100), NO);
        due(31, "colder of neither", x.colder(7, -1), NO);
    }

    // ---- II, III ----

    private static int takesAt(int cold, int shy) {
        return Check.told(Texts.LEAST + Texts.villager(cold, shy)).takes(0);
    }

    private static void asColdAsShy() {
        due(14, "0 and 0", takesAt(0, 0), 1);
        due(14, "0 and 1", takesAt(0, 1), 0);
        due(14, "30 and 29, 30, 31", over(29, 31, shy -> takesAt(30, shy)), 1, 1, 0);
        due(14, "60 and 59, 60, 61", over(59, 61, shy -> takesAt(60, shy)), 1, 1, 0);
        due(14, "60 and 99", takesAt(60, 99), 0);
        WaistcoatGreen x = Check.told(Texts.green(2, 0, 0, 0, 19) + Texts.wearer(60, 0) + Texts.villager(60, 99)
                + "frost 20 at 2;");
        due(14, "60, 79, 99 (118) and 99; who has it, too", over(0, 2, m -> x.takes(m)), 1, 1, 3);
        WaistcoatGreen y = Check.told(Texts.green(1, 0, 0, 1, 20) + Texts.wearer(60, 60) + Texts.villager(60, 99)
                + "frost 18 at 1;");
        due(14, "98 and 99; he who has it not, of 59 and 60", over(0, 1, m -> y.takes(m)), 1, 0);
    }

    /** Whether one who has it passes it to one of another coldness, by each law. */
    private static long[] passed(int his, int others, int shy) {
        return over(0, 3, law -> Check.told(Texts.green(1, law, 0, 5, 5) + Texts.wearer(his, 0)
                + Texts.villager(others, shy) + "hand 1 0;").passes(0));
    }

    private static void colderThanHe() {
        due(17, "as cold as he", passed(20, 20, 0), -1, -1, -1, -1);
        due(17, "colder by 1", passed(20, 21, 0), 1, 1, 1, 1);
        due(17, "less cold by 1", passed(20, 19, 0), -1, -1, -1, -1);
        due(17, "0 and 0", passed(0, 0, 0), -1, -1, -1, -1);
        due(17, "0 and 1", passed(0, 1, 1), 1, 1, 1, 1);
        due(17, "colder, but too shy by 1", passed(20, 40, 41), -1, -1, -1, -1);
        due(17, "colder, just not too shy", passed(20, 40, 40), 1, 1, 1, 1);
        due(12, "it stays", Check.told(Texts.ONE.replace(";villager cold 0 shy 0;", ";") + Texts.wearer(9, 99)).has(1), 0);
    }

    private static void fromPump() {
        for (int law = 0; law <= 3; law++) {
            String green = Texts.green(1, law, 0, 5, 5);
            WaistcoatGreen x = Check.told(green + Texts.villager(10, 10) + Texts.villager(30, 31) + Texts.villager(20, 0)
                    + Texts.villager(20, 20) + "hand 0 1;");
            due(17, "the coldest who would, the first of several, by law " + law, x.passes(0), 2);
            WaistcoatGreen none = Check.told(green + Texts.villager(10, 11) + Texts.villager(30, 31));
            due(17, "nobody would, by law " + law, none.passes(0), -1);
            due(12, "the pump keeps it, by law " + law, none.has(1), -1);
            WaistcoatGreen nought = Check.told(green + Texts.villager(0, 0) + Texts.villager(0, 0));
            due(17, "of coldness 0, by law " + law, nought.passes(0), 0);
        }
    }

    private static void firstOfSeveral() {
        // From 3 (10) by hands to 1 (30), 2 (20), 4 (30), 5 (20); 6 (50) and 0 (50) are behind 5.
        String people = Texts.villager(50, 0) + Texts.villager(30, 0) + Texts.villager(20, 0) + Texts.wearer(10, 0)
                + Texts.villager(30, 0) + Texts.villager(20, 0) + Texts.villager(50, 0);
        String hands = "hand 5 3;hand 4 3;hand 3 2;hand 3 1;hand 6 5;hand 5 0;";
        due(17, "of several by each law: the first, whatever hand was told first",
                over(0, 3, law -> Check.told(Texts.green(1, law, 0, 5, 5) + people + hands).passes(0)), 1, 1, 0, 2);
        String rising = Texts.wearer(10, 0) + Texts.villager(30, 0) + Texts.villager(31, 0) + "hand 0 1;hand 0 2;";
        due(17, "colder by 1 is coldest", over(0, 3, law -> Check.told(Texts.green(1, law, 0, 5, 5) + rising).passes(0)),
                2, 1, 2, 1);
        String falling = Texts.wearer(10, 0) + Texts.villager(31, 0) + Texts.villager(30, 0) + "hand 0 1;hand 0 2;";
        due(17, "less cold by 1 is least", over(0, 3, law -> Check.told(Texts.green(1, law, 0, 5, 5) + falling).passes(0)),
                1, 1, 1, 2);
        String atPump = Texts.villager(30, 0) + Texts.villager(31, 0) + Texts.villager(30, 0);
        due(17, "colder by 1 from the pump", over(0, 3, law -> Check.told(Texts.green(1, law, 0, 5, 5) + atPump).passes(0)),
                1, 1, 1, 1);
        WaistcoatGreen one = Check.told(Texts.LEAST + atPump + Texts.villager(29, 0).repeat(2));
        due(15, "coldest by 1", one.coldest(0), 1);
        due(33, "warmest by 1", one.warmest(0), 3);
        due(27, "worst by 1", one.worst(), 1);
        due(29, "blue by 1", one.blue(), 1);
        due(31, "colder by 1", over(0, 4, v -> one.colder(v, 0)), 2, 0, 2, 7, 7);
    }

    private static void overWhomever() {
        String people = Texts.wearer(10, 0) + Texts.villager(0, 99) + Texts.villager(10, 99) + Texts.villager(60, 99)
                + Texts.villager(11, 11) + Texts.villager(60, 0);
        String hands = "hand 0 1;hand 1 2;hand 2 3;hand 3 4;";
        due(17, "by hands over whomever by law 2 alone, nobody beyond them",
                over(0, 3, law -> Check.told(Texts.green(1, law, 0, 5, 5) + people + hands).passes(0)), -1, -1, 4, -1);
    }

    private static int coldAfter(int cold, int chill, int frost) {
        return Check.told(Texts.green(1, 0, 0, 0, chill) + Texts.villager(cold, 99)
                + (frost > 0 ? "frost " + frost + " at 1;" : "")).cold(0, 1);
    }

    private static void ninetyNine() {
        due(13, "60 + 20 + 18, 19, 20, 40", new long[] {coldAfter(60, 20, 18), coldAfter(60, 20, 19), coldAfter(60, 20, 20),
            coldAfter(60, 20, 40)}, 98, 99, 99, 99);
        due(13, "colder by nothing", new long[] {coldAfter(0, 0, 0), coldAfter(60, 0, 0)}, 0, 60);
        due(13, "by the least frost", coldAfter(0, 0, 1), 1);
        WaistcoatGreen x = Check.told(Texts.green(3, 0, 0, 7, 20) + Texts.wearer(0, 0) + Texts.villager(60, 99)
                + "frost 40 at 1;frost 40 at 2;frost 40 at 2;");
        x.gives(0, 1);
        x.gives(1, 2);
        due(13, "99 stays 99, and from 99 it goes down", over(0, 3, m -> x.cold(1, m)), 60, 99, 99, 92);
    }

    private static int warmed(int cold, int warm) {
        return Check.told(Texts.green(1, 0, 0, warm, 20) + Texts.wearer(cold, 0) + "frost 40 at 1;").cold(0, 1);
    }

    private static void nought() {
        due(13, "less cold by warm in place of chill and frosts, 0 at least", new long[] {warmed(41, 40), warmed(40, 40),
            warmed(39, 40), warmed(0, 40), warmed(0, 0), warmed(60, 0), warmed(60, 40)}, 1, 0, 0, 0, 0, 60, 20);
        WaistcoatGreen x = Check.told(Texts.green(2, 0, 0, 40, 20) + Texts.wearer(10, 0) + Texts.villager(15, 0) + "hand 0 1;");
        due(13, "he who gets it is warmed on the morning when he has it", new long[] {x.cold(1, 1), x.cold(0, 1), x.cold(0, 2)},
                0, 30, 0);
        due(12, "it comes back", over(0, 2, m -> x.has(m)), 0, 1, 0);
    }

    private static void songs() {
        for (int cold : new int[] {0, 9, 10, 11, 60}) {
            WaistcoatGreen x = Check.told(Texts.green(1, 0, 0, 0, 3) + Texts.villager(cold, 99));
            due(64, "on morning 0, of " + cold, x.sings(0, 0), Math.max(0, cold - 10));
            due(13, "the next one is from that, of " + cold, x.cold(0, 1), Math.max(0, cold - 10) + 3);
            due(6, "cold as told, of " + cold, x.villager(0, 0), cold);
        }
        WaistcoatGreen x = Check.told(Texts.green(2, 0, 0, 0, 20) + Texts.villager(60, 99) + "frost 40 at 1;frost 1 at 2;");
        due(64, "behind 99 at most", x.sings(0, 1), 89);
        due(13, "then 99 again", x.cold(0, 2), 99);
        due(64, "each time", new long[] {x.sings(0, 1), x.sings(0, 1)}, 79, 69);
        due(13, "from 69 on", x.cold(0, 2), 90);
        WaistcoatGreen y = Check.told(Texts.green(2, 0, 0, 40, 4) + Texts.wearer(50, 0));
        due(64, "who has it, behind warm", new long[] {y.sings(0, 1), y.sings(0, 1), y.cold(0, 2)}, 0, 0, 0);
        WaistcoatGreen z = Check.told(Texts.green(1, 0, 0, 0, 0) + Texts.villager(30, 20) + Texts.villager(25, 16));
        due(17, "he would, and is coldest", z.passes(0), 0);
        due(64, "20 is as he is shy", z.sings(0, 0), 20);
        due(17, "the other one is colder", z.passes(0), 1);
        due(64, "15 is less than he is shy", z.sings(1, 0), 15);
        due(17, "the first one again", z.passes(0), 0);
        due(64, "10 is less than he is shy", z.sings(0, 0), 10);
        due(17, "nobody", z.passes(0), -1);
        due(14, "nobody would", z.takes(0), 0);
    }

    private static void frostsOfMornings() {
        WaistcoatGreen x = Check.told(Texts.green(3, 0, 0, 0, 2) + Texts.villager(0, 99)
                + "frost 1 at 1;frost 40 at 3;frost 40 at 4;frost 40 at 14;");
        due(34, "of the first, of none, of the last; those behind the last do nothing", over(0, 4, m -> x.frost(m)),
                NO, 3, 2, 42, NO);
        due(13, "cold", over(0, 3, m -> x.cold(0, m)), 0, 3, 5, 47);
        due(70, "all are told", x.count(7), 4);
        WaistcoatGreen y = Check.told(Texts.green(1, 0, 0, 0, 0) + "frost 1 at 1;".repeat(8));
        due(34, "eight of one morning", y.frost(1), 8);
    }

    private static void givenMornings() {
        WaistcoatGreen x = Check.told(Texts.green(3, 0, 0, 5, 5) + Texts.villager(10, 99) + Texts.villager(10, 99));
        due(63, "from the one ahead of the last", x.gives(1, 2), 1);
        due(12, "has", over(0, 3, m -> x.has(m)), -1, -1, -1, 1);
        due(63, "from the first", x.gives(0, 0), 1);
        due(12, "has", over(0, 3, m -> x.has(m)), -1, 0, 0, 1);
        due(17, "passes where it is given, and where not", over(0, 2, m -> x.passes(m)), -1, -1, -1);
        due(63, "to him who has it", x.gives(0, 1), 1);
        due(12, "has", over(0, 3, m -> x.has(m)), -1, 0, 0, 1);
        due(63, "of one morning the latest", x.gives(0, 2), 0);
        due(12, "has", over(0, 3, m -> x.has(m)), -1, 0, 0, 0);
        WaistcoatGreen y = Check.told(Texts.green(1, 0, 0, 5, 5) + Texts.villager(10, 0) + Texts.villager(10, 99));
        due(17, "passes by law", y.passes(0), 0);
        due(63, "to one who would not", y.gives(1, 0), 1);
        due(17, "passes by law where it is given", y.passes(0), -1);
        due(63, "to the one who would", y.gives(0, 0), 0);
        due(17, "passes by law where it is given to the same", y.passes(0), -1);
    }

    // ---- of several the first, runs ----

    private static void tiesOfMany() {
        WaistcoatGreen x = Check.told(Texts.green(1, 0, 0, 0, 0) + Texts.villager(5, 99).repeat(7)
                + "hand 0 6;hand 6 0;hand 1 5;");
        due(15, "coldest of seven alike", x.coldest(1), 0);
        due(33, "warmest of seven alike", x.warmest(1), 0);
        due(27, "worst of seven alike", x.worst(), 0);
        due(29, "blue of seven alike", x.blue(), 0);
        due(37, "fair of seven alike", x.fair(), 0);
        due(30, "a pair with two hands counts once", x.alike(1), 2);
        due(31, "nobody is colder", x.colder(6, 1), 0);
        WaistcoatGreen last = Check.told(Texts.green(1, 0, 0, 0, 0) + Texts.villager(5, 99).repeat(6) + Texts.villager(6, 99));
        due(15, "coldest, the last", last.coldest(0), 6);
        due(27, "worst, the last", last.worst(), 6);
        due(29, "blue, the last", last.blue(), 6);
        due(33, "warmest, the first of six", last.warmest(0), 0);
        due(31, "colder than the first", last.colder(0, 0), 64);
        due(37, "fair", last.fair(), 2);
        WaistcoatGreen late = Check.told(Texts.green(2, 0, 0, 20, 10) + Texts.wearer(50, 0) + Texts.villager(31, 99));
        due(29, "blue on any: 50 of the first on 0, 51 of the other on the last", late.blue(), 1);
    }

    /** What is so on the first morning alone, or on the last, counts; and so do the first villager and the last. */
    private static void firstAndLast() {
        WaistcoatGreen x = Check.told(Texts.green(2, 0, 0, 40, 0) + Texts.wearer(10, 0) + Texts.villager(60, 30) + "hand 0 1;");
        due(12, "has", over(0, 2, m -> x.has(m)), 0, 1, 1);
        due(24, "round: he of the first morning, too", x.round(), 3);
        due(29, "blue of the first morning", x.blue(), 1);
        due(25, "suffers", over(0, 1, v -> x.suffers(v)), 30, 80);
        due(27, "worst, the last", x.worst(), 1);
        due(37, "fair, the first has least", x.fair(), 50);
        due(28, "freezes on the first", x.freezes(1, 60), 0);
        WaistcoatGreen y = Check.told(Texts.green(2, 0, 0, 40, 0) + Texts.villager(30, 99) + Texts.villager(1, 99)
                + Texts.villager(2, 99) + "frost 5 at 2;");
        due(37, "fair, the first has most", y.fair(), 95 - 8);
        due(27, "worst, the first", y.worst(), 0);
        due(28, "freezes on the last", new long[] {y.freezes(0, 35), y.freezes(0, 36)}, 2, -1);
        due(38, "rises on the last", y.rises(0), 1);
        due(35, "no jumps", y.jumps(), 0);
        y.gives(2, 1);
        due(24, "round: he of the last morning", y.round(), 4);
        due(35, "jumps on the last", y.jumps(), 1);
        WaistcoatGreen early = Check.told(Texts.green(1, 0, 0, 40, 0) + Texts.villager(30, 99) + Texts.wearer(60, 99));
        due(29, "blue: 60 on the first alone, 30 and 20 on the last", early.blue(), 1);
        WaistcoatGreen nought = Check.told(Texts.LEAST + Texts.villager(0, 99).repeat(2));
        due(29, "blue of nobody colder than 0", nought.blue(), 0);
        due(27, "worst of nothing suffered", nought.worst(), 0);
        due(15, "coldest of nobody colder than 0", nought.coldest(0), 0);
        WaistcoatGreen jump = Check.told(Texts.green(1, 0, 0, 0, 0) + Texts.villager(9, 9));
        due(35, "jumps on morning 1", jump.jumps(), 1);
        due(22, "right on the last", jump.right(), 2);
        due(38, "no rise by as much", jump.rises(0), 0);
    }

    private static void runsOfMornings() {
        WaistcoatGreen x = Check.told(Texts.green(14, 0, 0, 0, 0) + Texts.wearer(5, 99) + Texts.villager(5, 99));
        due(18, "worn on all", over(0, 1, v -> x.worn(v)), 15, 0);
        due(20, "keeps on all", over(0, 1, v -> x.keeps(v)), 15, 0);
        due(19, "gets on the first, never", over(0, 1, v -> x.gets(v)), 0, -1);
        due(22, "right on all", x.right(), 32767);
        due(23, "stops at once", x.stops(), 0);
        due(36, "longest of all", x.longest(), 15);
        due(35, "no jumps", x.jumps(), 0);
        x.gives(1, 13);
        due(19, "gets on the last", x.gets(1), 14);
        due(18, "worn on the last", x.worn(1), 1);
        due(23, "stops on the last", x.stops(), 14);
        due(36, "longest but for the last", x.longest(), 14);
        due(40, "returns of one who comes to it", x.returns(1), 0);
        x.gives(0, 12);
        x.gives(1, 0);
        x.gives(0, 1);
        due(12, "has: 0 1 0 0 .. 0 1", new long[] {x.has(0), x.has(1), x.has(2), x.has(13), x.has(14)}, 0, 1, 0, 0, 1);
        due(40, "returns to each", over(0, 1, v -> x.returns(v)), 1, 1);
        due(20, "keeps behind the return", over(0, 1, v -> x.keeps(v)), 12, 1);
        due(36, "longest behind the return", x.longest(), 12);
        due(35, "jumps", x.jumps(), 3);
        due(24, "round", x.round(), 3);
        WaistcoatGreen pump = Check.told(Texts.green(14, 0, 0, 0, 0) + Texts.villager(5, 99));
        due(21, "pump on all", pump.pump(), 15);
        due(36, "longest is the pump's", pump.longest(), 15);
        due(23, "stops with the pump", pump.stops(), 0);
        due(39, "waits of one who never would", pump.waits(0), 0);
        due(22, "right, by the pump never", pump.right(), 0);
        pump.rate(0, 0);
        due(21, "pump on the first", pump.pump(), 1);
        due(23, "stops on 1", pump.stops(), 1);
        due(39, "waits on the first alone", pump.waits(0), 1);
        WaistcoatGreen never = Check.told(Texts.green(14, 0, 0, 0, 0) + Texts.wearer(5, 0) + Texts.villager(5, 5) + "hand 0 1;");
        due(39, "waits on all, who never gets it; not at all, who has it at first", over(0, 1, v -> never.waits(v)), 0, 15);
    }
}

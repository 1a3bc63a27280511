import java.util.function.IntUnaryOperator;
import java.util.stream.IntStream;

/** Boundaries of promises 63 to 66 and 69 to 75. */
final class ActBounds {
    private static final int NO = -2;
    private static final int LOW = Integer.MIN_VALUE;
    private static final int HIGH = Integer.MAX_VALUE;

    private ActBounds() {
    }

    static void run() {
        givesAtBounds();
        singsAtBounds();
        thirtyActs();
        undoOfNone();
        undoOfAll();
        anewAtBounds();
        rateAtBounds();
        countAtBounds();
        imagesAtBounds();
        imagesOfFullAndNone();
        imagesOfActs();
        rowsAtBounds();
        rowInPlace();
        writesAtBounds();
        cutToWidth();
        pasteRefused();
        pasteAtBounds();
        pasteAsTheyWere();
    }

    private static long[] over(int from, int to, IntUnaryOperator call) {
        return IntStream.rangeClosed(from, to).mapToLong(i -> call.applyAsInt(i)).toArray();
    }

    private static void due(int promise, String call, long got, long want) {
        Check.due(promise, call, got, want);
    }

    private static void due(int promise, String call, long[] got, long... want) {
        Check.due(promise, call, got, want);
    }

    // ---- 63 to 66 ----

    private static void givesAtBounds() {
        WaistcoatGreen x = Check.told(Texts.green(14, 0, 0, 0, 0) + Texts.villager(1, 9).repeat(7));
        due(63, "refused mornings", new long[] {x.gives(0, -1), x.gives(0, 14), x.gives(0, 15), x.gives(0, LOW),
            x.gives(0, HIGH)}, NO, NO, NO, NO, NO);
        due(63, "refused villagers", new long[] {x.gives(-1, 0), x.gives(7, 0), x.gives(LOW, 0), x.gives(HIGH, 0),
            x.gives(7, 14)}, NO, NO, NO, NO, NO);
        due(63, "none was an act", x.count(8), 0);
        due(63, "the first to the first", x.gives(0, 0), 0);
        due(63, "the last from the one ahead of the last", x.gives(6, 13), 6);
        due(63, "two acts", x.count(8), 2);
        due(12, "has", new long[] {x.has(0), x.has(1), x.has(13), x.has(14)}, -1, 0, 0, 6);
        WaistcoatGreen none = new WaistcoatGreen();
        due(63, "without a green", none.gives(0, 0), NO);
        due(63, "where nobody is", Check.told(Texts.LEAST).gives(0, 0), NO);
        WaistcoatGreen one = Check.told(Texts.LEAST + Texts.villager(0, 99));
        due(63, "of one morning", over(-1, 1, m -> one.gives(0, m)), NO, 0, NO);
    }

    private static void singsAtBounds() {
        WaistcoatGreen x = Check.told(Texts.FULL);
        due(64, "refused mornings", new long[] {x.sings(0, -1), x.sings(0, 15), x.sings(0, LOW), x.sings(0, HIGH)},
                NO, NO, NO, NO);
        due(64, "refused villagers", new long[] {x.sings(-1, 0), x.sings(7, 0), x.sings(LOW, 0), x.sings(HIGH, 0),
            x.sings(7, 15)}, NO, NO, NO, NO, NO);
        due(64, "none was an act", x.count(8), 0);
        due(64, "the first on the first: 0 at least", x.sings(0, 0), 0);
        due(64, "the last on the last: 99 less 10", x.sings(6, 14), 89);
        due(64, "two acts", x.count(8), 2);
        due(64, "without a green", new WaistcoatGreen().sings(0, 0), NO);
        due(64, "where nobody is", Check.told(Texts.LEAST).sings(0, 0), NO);
    }

    private static WaistcoatGreen withActs(int n) {
        WaistcoatGreen x = Check.told(Texts.green(14, 0, 0, 0, 0) + Texts.villager(60, 99).repeat(7));
        for (int i = 0; i < n; i++) {
            due(64, "song " + i, x.sings(i % 7, i % 15), 50 - 10 * (earlier(i)));
        }
        return x;
    }

    /** How often the singer of song i sang on that morning or an earlier one ahead of it. */
    private static int earlier(int i) {
        int times = 0;
        for (int k = 0; k < i; k++) {
            times += k % 7 == i % 7 && k % 15 <= i % 15 ? 1 : 0;
        }
        return times;
    }

    private static void thirtyActs() {
        WaistcoatGreen x = withActs(29);
        due(63, "the 30th", x.gives(2, 13), 2);
        due(63, "a 31st", x.gives(0, 0), -5);
        due(64, "a 31st", x.sings(0, 0), -5);
        due(63, "none such is asked ahead", new long[] {x.gives(7, 0), x.gives(-1, 0), x.gives(0, 14), x.gives(0, -1)},
                NO, NO, NO, NO);
        due(64, "none such is asked ahead", new long[] {x.sings(7, 0), x.sings(-1, 0), x.sings(0, 15), x.sings(0, -1)},
                NO, NO, NO, NO);
        due(69, "rate behind acts", x.rate(0, 0), -5);
        due(70, "30 acts", x.count(8), 30);
        due(12, "has stays", new long[] {x.has(1), x.has(13), x.has(14)}, -1, -1, 2);
        due(65, "undo()", x.undo(), 29);
        due(12, "has as ahead of it", x.has(14), -1);
        due(64, "the 30th", x.sings(1, 14), withActs(29).cold(1, 14) - 10);
        due(64, "a 31st", x.sings(1, 14), -5);
        due(63, "a 31st", x.gives(1, 13), -5);
        due(66, "anew()", x.anew(), 30);
        due(63, "room again", x.gives(1, 13), 1);
        due(70, "one act", x.count(8), 1);
    }

    private static void undoOfNone() {
        due(65, "without a green", new WaistcoatGreen().undo(), NO);
        due(66, "without a green", new WaistcoatGreen().anew(), NO);
        WaistcoatGreen x = Check.told(Texts.FULL);
        due(65, "of none", x.undo(), -5);
        due(65, "of none again", x.undo(), -5);
        due(66, "of none", x.anew(), 0);
        due(70, "no acts", x.count(8), 0);
        x.sings(0, 0);
        due(65, "of one", x.undo(), 0);
        due(65, "of none then", x.undo(), -5);
        WaistcoatGreen bare = Check.told(Texts.LEAST);
        due(65, "where nobody is", bare.undo(), -5);
        due(66, "where nobody is", bare.anew(), 0);
        x.gives(0, 0);
        x.green();
        due(65, "behind no green", x.undo(), NO);
        due(66, "behind no green", x.anew(), NO);
    }

    private static void undoOfAll() {
        WaistcoatGreen x = withActs(30);
        for (int n = 29; n >= 0; n--) {
            WaistcoatGreen fewer = withActs(n);
            due(65, "undo() to " + n, x.undo(), n);
            due(65, "sum() of " + n + " acts", x.sum(), fewer.sum());
            due(65, "cold of " + n + " acts", x.cold(n % 7, n % 15), fewer.cold(n % 7, n % 15));
        }
        due(65, "none is left", x.undo(), -5);
        WaistcoatGreen y = Check.told(Texts.green(2, 0, 0, 0, 0) + Texts.villager(1, 9).repeat(3));
        for (int i = 0; i < 30; i++) {
            due(63, "given over and over", y.gives(i % 3, 1), i % 3);
        }
        for (int i = 28; i >= 0; i--) {
            due(65, "undo()", y.undo(), i + 1);
            due(65, "the latest that is left", y.has(2), i % 3);
        }
    }

    private static void anewAtBounds() {
        WaistcoatGreen x = withActs(30);
        due(66, "of 30", x.anew(), 30);
        due(66, "of none then", x.anew(), 0);
        due(66, "all is as told", x.sum(), 60 * 7 * 15);
        due(66, "none to take back", x.undo(), -5);
        WaistcoatGreen y = Check.told(Texts.FULL);
        y.rate(0, 5);
        y.gives(0, 0);
        due(66, "of one", y.anew(), 1);
        due(66, "shy is no act", y.villager(0, 1), 5);
    }

    // ---- 69, 70 ----

    private static void rateAtBounds() {
        WaistcoatGreen x = Check.told(Texts.FULL);
        due(69, "the least", x.rate(6, 0), 99);
        due(69, "the greatest", x.rate(6, 99), 0);
        due(69, "the same", x.rate(6, 99), 99);
        for (int n : new int[] {-1, 100, LOW, HIGH}) {
            due(69, "rate(0, " + n + ")", x.rate(0, n), NO);
        }
        for (int v : new int[] {-1, 7, LOW, HIGH}) {
            due(69, "rate(" + v + ", 0)", x.rate(v, 0), NO);
        }
        due(69, "shy stays", over(0, 6, v -> x.villager(v, 1)), 99, 99, 99, 99, 99, 99, 99);
        x.sings(0, 0);
        due(69, "there were acts", x.rate(0, 0), -5);
        due(69, "none such is asked ahead", new long[] {x.rate(7, 0), x.rate(-1, 0), x.rate(0, 100), x.rate(0, -1)},
                NO, NO, NO, NO);
        due(69, "shy stays", x.villager(0, 1), 99);
        x.undo();
        due(69, "without acts again", x.rate(0, 0), 99);
        due(69, "it is so", x.villager(0, 1), 0);
        due(14, "he would take it now", x.takes(0), 1);
        due(69, "without a green", new WaistcoatGreen().rate(0, 0), NO);
    }

    private static void countAtBounds() {
        WaistcoatGreen x = Check.told(Texts.FULL);
        for (int slot = 0; slot < 4; slot++) {
            due(70, "slots", x.count(11), slot);
            x.row(slot, 3, slot == 0 ? 0 : 60);
        }
        for (int i = 0; i < 30; i++) {
            x.sings(0, 0);
        }
        Check.type(x, "x".repeat(700));
        due(70, "count of all there can be", over(-1, 12, w -> x.count(w)),
                -1, 14, 0, 5, 40, 20, 7, 12, 8, 30, 28, 700, 4, -1);
        due(70, "others", new long[] {x.count(LOW), x.count(HIGH), x.count(-2), x.count(100)}, -1, -1, -1, -1);
        x.row(0, 0, 61);
        x.row(0, 0, -1);
        due(70, "refused rows change nothing", x.count(11), 4);
        WaistcoatGreen y = Check.told(Texts.LEAST);
        due(70, "count of the least", over(-1, 12, w -> y.count(w)), -1, 1, 0, 0, 0, 0, 0, 0, 0, 0, 1, 0, 0, -1);
        WaistcoatGreen z = Check.told(Texts.MOST);
        due(70, "count of the greatest", over(-1, 12, w -> z.count(w)), -1, 14, 3, 10, 40, 20, 0, 0, 0, 0, 1, 0, 0, -1);
    }

    // ---- 71, 72 ----

    private static void imagesAtBounds() {
        WaistcoatGreen x = Check.told(Texts.ONE);
        for (int k : new int[] {-1, 3, LOW, HIGH}) {
            due(71, "image(" + k + ")", x.image(k), NO);
            due(72, "back(" + k + ")", x.back(k), NO);
        }
        due(72, "of nothing", over(-1, 3, k -> x.back(k)), NO, -6, -6, -6, NO);
        due(72, "it stays", x.count(9), 2);
        due(71, "the first", x.image(0), 0);
        due(72, "of one", over(-1, 3, k -> x.back(k)), NO, 0, -6, -6, NO);
        due(71, "the last", x.image(2), 0);
        due(72, "of two", over(-1, 3, k -> x.back(k)), NO, 0, -6, 0, NO);
        WaistcoatGreen y = new WaistcoatGreen();
        due(71, "refused without a green", new long[] {y.image(-1), y.image(3)}, NO, NO);
        due(72, "of nothing without a green", over(-1, 3, k -> y.back(k)), NO, -6, -6, -6, NO);
    }

    private static void imagesOfFullAndNone() {
        WaistcoatGreen x = new WaistcoatGreen();
        due(71, "of no green", x.image(0), 0);
        Check.type(x, Texts.FULL);
        x.green();
        x.rate(0, 0);
        for (int i = 0; i < 30; i++) {
            x.sings(i % 7, 14);
        }
        int sum = x.sum();
        due(71, "of all there can be", x.image(1), 0);
        x.anew();
        x.rate(0, 99);
        due(71, "of it without acts", x.image(2), 0);
        x.row(0, 0, 7);
        Check.type(x, "!");
        x.green();
        due(72, "back to all", x.back(1), 0);
        due(72, "acts, shy, sum", new long[] {x.count(8), x.villager(0, 1), x.sum()}, 30, 0, sum);
        due(72, "a 31st act", x.gives(0, 0), -5);
        due(72, "slots, tape and fault are not of it", new long[] {x.count(11), x.count(10), x.fault(0), x.fault(1)}, 1, 1, 1, 0);
        due(72, "undo() of the image's", x.undo(), 29);
        due(72, "back to none done", x.back(2), 0);
        due(72, "acts, shy", new long[] {x.count(8), x.villager(0, 1), x.undo()}, 0, 99, -5);
        due(72, "has", over(0, 14, m -> x.has(m)), over(0, 14, m -> Texts.FULL_HAS[m]));
        due(72, "back to no green", x.back(0), 0);
        due(72, "no green", new long[] {x.has(0), x.count(0), x.undo(), x.anew()}, NO, 0, NO, NO);
        due(72, "back to all again, as it was kept", x.back(1), 0);
        due(72, "acts", x.count(8), 30);
        due(71, "over another", x.image(0), 0);
        x.back(2);
        due(72, "back to the later one", x.back(0), 0);
        due(72, "acts", x.count(8), 30);
    }

    /** An image keeps its acts, whatever is done in their place later. */
    private static void imagesOfActs() {
        WaistcoatGreen x = Check.told(Texts.green(2, 0, 0, 0, 0) + Texts.villager(30, 99).repeat(3));
        x.gives(2, 0);
        x.sings(1, 1);
        x.image(0);
        x.anew();
        x.sings(0, 2);
        x.gives(1, 1);
        x.image(1);
        due(72, "back to the first", x.back(0), 0);
        due(72, "has", over(0, 2, m -> x.has(m)), -1, 2, 2);
        due(72, "cold", over(0, 2, v -> x.cold(v, 2)), 30, 20, 30);
        due(72, "back to the other one", x.back(1), 0);
        due(72, "has", over(0, 2, m -> x.has(m)), -1, -1, 1);
        due(72, "cold", over(0, 2, v -> x.cold(v, 2)), 20, 30, 30);
        due(72, "undo() of its latest", x.undo(), 1);
        due(72, "has", over(0, 2, m -> x.has(m)), -1, -1, -1);
        due(72, "back again", x.back(1), 0);
        due(72, "it is there again", x.has(2), 1);
        Check.type(x, Texts.FULL);
        x.green();
        due(72, "back from another green", x.back(0), 0);
        due(72, "villagers, hands, frosts, has", new long[] {x.count(5), x.hands(0), x.frost(1), x.has(1)}, 3, 0, 0, 2);
    }

    // ---- 73 to 75 ----

    private static void rowsAtBounds() {
        WaistcoatGreen x = new WaistcoatGreen();
        for (int slot : new int[] {-1, 4, LOW, HIGH}) {
            due(73, "row(" + slot + ", 0, .)", new long[] {x.row(slot, 0, 0), x.row(slot, 0, 60), x.row(slot, 0, -1),
                x.row(slot, 4, 61)}, NO, NO, NO, NO);
        }
        for (int width : new int[] {-1, 4, LOW, HIGH}) {
            due(73, "row(0, " + width + ", .)", new long[] {x.row(0, width, 0), x.row(0, width, 60), x.row(0, width, -1)},
                    NO, NO, NO);
        }
        for (int n : new int[] {61, HIGH}) {
            due(73, "row(0, 0, " + n + ")", x.row(0, 0, n), NO);
        }
        for (int n : new int[] {-1, LOW}) {
            due(73, "row(0, 0, " + n + ")", x.row(0, 0, n), -3);
        }
        due(73, "none has a row", x.count(11), 0);
        for (int slot = 0; slot <= 3; slot++) {
            for (int width = 0; width <= 3; width++) {
                due(73, "row(" + slot + ", " + width + ", .)", new long[] {x.row(slot, width, 0), x.row(slot, width, 1),
                    x.row(slot, width, 60)}, 0, 0, 0);
            }
        }
        due(73, "all have a row", x.count(11), 4);
    }

    private static void rowInPlace() {
        WaistcoatGreen x = new Script().text(Texts.ONE).then("green").row(0, 3, 0, -1, 1, 0).on(new WaistcoatGreen());
        due(54, "as it is", x.laws(0), 15);
        due(73, "refused", new long[] {x.row(0, 4, 2), x.row(0, 0, 61), x.row(4, 0, 2), x.row(-1, 0, 2)}, NO, NO, NO, NO);
        due(73, "below 0", new long[] {x.row(0, 0, -1), x.row(0, 3, LOW)}, -3, -3);
        due(73, "the slot stays", new long[] {x.laws(0), x.write(0, 3, 0), x.write(0, 4, 0), x.paste(0, 0, 0, 0, 4)}, 15, 0, -7, 0);
        x.row(1, 3, 4);
        due(73, "its width stays", x.paste(0, 0, 1, 0, 4), 0);
        due(73, "another in its place", x.row(0, 2, 4), 0);
        due(73, "all 0: villager 0 on morning 0", x.laws(0), 0);
        x.write(0, 1, -1);
        x.write(0, 3, -1);
        due(73, "all 0 but for who: the pump on morning 0, twice", x.laws(0), 15);
        due(73, "its width is another", x.paste(0, 0, 1, 0, 0), -8);
        due(73, "the same over again", x.row(0, 2, 4), 0);
        due(73, "all 0 again", x.laws(0), 0);
        x.row(2, 0, 60);
        for (int i = 0; i < 60; i++) {
            x.write(2, i, 1);
        }
        x.row(2, 0, 60);
        for (int i = 1; i < 60; i += 2) {
            x.write(2, i, -1);
        }
        due(73, "all 0 in place of 60: the pump on morning 0 thirty times", x.laws(2), 15);
        due(73, "shorter, then longer", new long[] {x.row(0, 2, 0), x.laws(0), x.row(0, 2, 60), x.laws(0)}, 0, 15, 0, 0);
        due(73, "the others stay", x.laws(1), 15);
    }

    private static void writesAtBounds() {
        WaistcoatGreen x = new WaistcoatGreen();
        for (int slot : new int[] {-1, 4, LOW, HIGH}) {
            due(74, "write(" + slot + ", ., 0)", new long[] {x.write(slot, 0, 0), x.write(slot, -1, 0)}, NO, NO);
        }
        due(74, "of nothing", new long[] {x.write(0, 0, 0), x.write(3, 0, 0), x.write(0, -1, 0), x.write(0, 60, 0),
            x.write(0, HIGH, 0)}, -6, -6, -6, -6, -6);
        for (int n : new int[] {0, 1, 2, 59, 60}) {
            x.row(3, 1, n);
            due(74, "the first of " + n, x.write(3, 0, 1), n > 0 ? 0 : -7);
            due(74, "the last of " + n, x.write(3, n - 1, 1), n > 0 ? 0 : -7);
            for (int i : new int[] {-1, n, n + 1, LOW, HIGH, 60}) {
                due(74, "number " + i + " of " + n, x.write(3, i, 1), -7);
            }
        }
        due(74, "of another", x.write(2, 0, 0), -6);
        WaistcoatGreen y = new Script().text(Texts.ONE).then("green").row(0, 0, 0, -1, 1, 0).on(new WaistcoatGreen());
        due(74, "refused", new long[] {y.write(0, 4, 9), y.write(0, -1, 9), y.write(1, 0, 9), y.write(4, 0, 9)}, -7, -7, -6, NO);
        due(74, "nothing happened", y.laws(0), 15);
    }

    /** Which of -1 and 0 and 1 a number is, once written to a row of a width; 9 for others. */
    private static int written(int width, long v) {
        WaistcoatGreen x = Check.told(Texts.ONE);
        int answer = 9;
        x.row(0, width, 2);
        x.write(0, 1, -1);
        x.write(0, 0, v);
        if (x.laws(0) != NO) {
            // As a morning: the pump has it on 0, not on 1.
            answer = x.laws(0) == 15 ? 0 : 1;
        }
        x.write(0, 0, 0);
        x.write(0, 1, v);
        return x.laws(0) == 15 ? -1 : answer;
    }

    private static void cutToWidth() {
        int[] bits = {8, 16, 32, 64};
        for (int width = 0; width <= 3; width++) {
            for (long small = -1; small <= 1; small++) {
                due(74, "width " + width + " of " + small, written(width, small), small);
                for (int higher : new int[] {8, 16, 32}) {
                    boolean same = higher >= bits[width];
                    long above = small + (1L << higher);
                    long below = small - (1L << higher);
                    due(74, "width " + width + " of " + above, written(width, above), same ? small : 9);
                    due(74, "width " + width + " of " + below, written(width, below), same ? small : 9);
                }
                long farthest = small + Long.MIN_VALUE;
                due(74, "width " + width + " of " + farthest, written(width, farthest), width < 3 ? small : 9);
            }
            if (width < 3) {
                long top = 1L << (bits[width] - 1);
                due(74, "width " + width + " of half way", new long[] {written(width, top), written(width, top - 1),
                    written(width, -top)}, 9, 9, 9);
            }
        }
    }

    private static WaistcoatGreen slots() {
        WaistcoatGreen x = Check.told(Texts.ONE);
        x.row(0, 0, 60);
        x.row(1, 0, 4);
        x.row(2, 1, 4);
        return x;
    }

    private static void pasteRefused() {
        WaistcoatGreen x = slots();
        for (int slot : new int[] {-1, 4, LOW, HIGH}) {
            due(75, "no such slot " + slot, new long[] {x.paste(slot, 0, 0, 0, 0), x.paste(0, 0, slot, 0, 0),
                x.paste(slot, 0, 3, 0, 0), x.paste(3, 0, slot, 0, 0), x.paste(slot, -1, slot, -1, -1),
                x.paste(2, 0, slot, 0, -1)}, NO, NO, NO, NO, NO, NO);
        }
        due(75, "one has nothing", new long[] {x.paste(3, 0, 0, 0, 0), x.paste(0, 0, 3, 0, 0), x.paste(3, 0, 3, 0, 0),
            x.paste(3, -1, 0, 0, 0), x.paste(0, 61, 3, 0, -1), x.paste(2, 0, 3, 9, 9)}, -6, -6, -6, -6, -6, -6);
        due(75, "not of one width", new long[] {x.paste(0, 0, 2, 0, 0), x.paste(2, 0, 0, 0, 1), x.paste(2, -1, 0, 0, 1),
            x.paste(2, 0, 0, 61, 1), x.paste(1, 0, 2, 0, -1), x.paste(1, 0, 2, 0, HIGH)}, -8, -8, -8, -8, -8, -8);
        due(75, "below 0", new long[] {x.paste(0, -1, 1, 0, 0), x.paste(0, -1, 1, 0, 1), x.paste(0, 0, 1, -1, 0),
            x.paste(0, 0, 1, -1, 1), x.paste(0, 0, 1, 0, -1), x.paste(0, LOW, 1, 0, 1), x.paste(0, 0, 1, LOW, 1),
            x.paste(0, 0, 1, 0, LOW)}, -7, -7, -7, -7, -7, -7, -7, -7);
        due(75, "beyond", new long[] {x.paste(0, 0, 1, 0, 5), x.paste(0, 0, 1, 1, 4), x.paste(1, 0, 0, 0, 5),
            x.paste(1, 1, 0, 0, 4), x.paste(0, 57, 1, 0, 4), x.paste(1, 0, 0, 57, 4), x.paste(0, 0, 0, 0, 61),
            x.paste(0, 60, 0, 0, 1), x.paste(0, 0, 0, 60, 1), x.paste(0, 61, 0, 0, 0), x.paste(0, 0, 0, 61, 0)},
                -7, -7, -7, -7, -7, -7, -7, -7, -7, -7, -7);
        due(75, "what would wrap around", new long[] {x.paste(0, HIGH, 0, 0, HIGH), x.paste(0, 0, 0, HIGH, HIGH),
            x.paste(0, HIGH, 0, HIGH, 2), x.paste(0, 1, 0, 0, HIGH), x.paste(0, 0, 0, 1, HIGH), x.paste(0, HIGH, 0, 0, 1),
            x.paste(0, LOW, 0, 0, HIGH), x.paste(0, LOW, 0, LOW, LOW)}, -7, -7, -7, -7, -7, -7, -7, -7);
    }

    private static void pasteAtBounds() {
        WaistcoatGreen x = slots();
        due(75, "none", new long[] {x.paste(0, 0, 1, 0, 0), x.paste(0, 60, 1, 4, 0), x.paste(1, 4, 0, 60, 0),
            x.paste(0, 60, 0, 60, 0)}, 0, 0, 0, 0);
        due(75, "all of a row", new long[] {x.paste(0, 0, 0, 0, 60), x.paste(1, 0, 0, 0, 4), x.paste(1, 0, 0, 56, 4),
            x.paste(0, 56, 1, 0, 4), x.paste(0, 0, 1, 0, 4)}, 0, 0, 0, 0, 0);
        due(75, "the last one", new long[] {x.paste(0, 59, 1, 3, 1), x.paste(1, 3, 0, 59, 1)}, 0, 0);
        x.row(3, 0, 0);
        due(75, "a row of none", new long[] {x.paste(3, 0, 0, 0, 0), x.paste(0, 0, 3, 0, 0), x.paste(3, 0, 3, 0, 0),
            x.paste(3, 0, 0, 0, 1), x.paste(0, 0, 3, 0, 1), x.paste(3, 1, 0, 0, 0)}, 0, 0, 0, -7, -7, -7);
        WaistcoatGreen y = new Script().text(Texts.ONE).then("green").row(0, 0, 0, -1, 1, 0).row(1, 0, 0, 0, 0, 0)
                .on(new WaistcoatGreen());
        due(75, "beyond by one", new long[] {y.paste(0, 0, 1, 1, 4), y.paste(0, 1, 1, 0, 4), y.paste(0, 0, 1, 0, 5)}, -7, -7, -7);
        due(75, "nothing happens", new long[] {y.laws(0), y.laws(1)}, 15, 0);
        due(75, "all", y.paste(0, 0, 1, 0, 4), 0);
        due(75, "they are there", new long[] {y.laws(0), y.laws(1)}, 15, 15);
    }

    private static void pasteAsTheyWere() {
        int[] first = {3, 0, -1, 1, 0, 1, 0, 0, -1, 5};
        for (int from = 0; from < first.length; from++) {
            for (int to = 0; to < first.length; to++) {
                int most = first.length - Math.max(from, to);
                for (int n : new int[] {0, 1, most - 1, most}) {
                    pasteOver(first, from, to, n);
                }
            }
        }
    }

    /** Puts some of a row to its own places, and reads each number back: on morning 0 the pump has it, on m villager m. */
    private static void pasteOver(int[] first, int from, int to, int n) {
        Script script = new Script().text(Texts.green(5, 0, 0, 0, 0) + Texts.villager(0, 0).repeat(7)).then("green");
        for (int m = 1; m <= 5; m++) {
            script.then("gives", m, m - 1);
        }
        WaistcoatGreen x = script.row(0, 2, IntStream.of(first).asLongStream().toArray()).row(1, 2, 0, 0).on(new WaistcoatGreen());
        int[] want = first.clone();
        System.arraycopy(first, from, want, to, n);
        due(75, "paste(0, " + from + ", 0, " + to + ", " + n + ")", x.paste(0, from, 0, to, n), 0);
        for (int i = 0; i < first.length; i++) {
            due(75, "paste(0, " + i + ", 1, 0, 1)", x.paste(0, i, 1, 0, 1), 0);
            x.write(1, 1, want[i] == 0 ? -1 : want[i]);
            due(75, "number " + i + " as a morning", x.laws(1), want[i] < 0 ? NO : 15);
            x.write(1, 0, 0);
            x.paste(0, i, 1, 1, 1);
            due(75, "number " + i + " as who had it", x.laws(1), want[i] == -1 ? 15 : 0);
        }
    }
}

/** Greens at their bounds, with what they bring, worked out by hand. */
final class Texts {
    /** Every number of the line at its least. */
    static final String LEAST = "green mornings 1 law 0 odds 0 warm 0 chill 0;";

    /** Every number of the line at its greatest. */
    static final String MOST = "green mornings 14 law 3 odds 10 warm 40 chill 20;";

    /** As many mornings, villagers, hands and frosts as there can be. */
    static final String FULL = "green mornings 14 law 0 odds 5 warm 40 chill 20;"
            + "villager cold 0 shy 99;villager cold 10 shy 99;villager cold 20 shy 99;villager cold 30 shy 99;"
            + "villager cold 40 shy 99;villager cold 50 shy 99;villager cold 60 shy 99 wears;"
            + "hand 0 1;hand 1 2;hand 2 3;hand 3 4;hand 4 5;hand 5 6;hand 6 0;hand 0 2;hand 0 3;hand 0 4;hand 0 5;hand 1 3;"
            + "frost 40 at 14;".repeat(8);

    /** Who has it on FULL. */
    static final int[] FULL_HAS = {6, 6, 6, 6, 5, 4, 0, 1, 2, 0, 1, 2, 0, 1, 2};

    /** How cold all are on FULL, a row for each morning. */
    static final int[][] FULL_COLD = {
        {0, 10, 20, 30, 40, 50, 60},
        {20, 30, 40, 50, 60, 70, 20},
        {40, 50, 60, 70, 80, 90, 0},
        {60, 70, 80, 90, 99, 99, 0},
        {80, 90, 99, 99, 99, 59, 20},
        {99, 99, 99, 99, 59, 79, 40},
        {59, 99, 99, 99, 79, 99, 60},
        {79, 59, 99, 99, 99, 99, 80},
        {99, 79, 59, 99, 99, 99, 99},
        {59, 99, 79, 99, 99, 99, 99},
        {79, 59, 99, 99, 99, 99, 99},
        {99, 79, 59, 99, 99, 99, 99},
        {59, 99, 79, 99, 99, 99, 99},
        {79, 59, 99, 99, 99, 99, 99},
        {99, 99, 59, 99, 99, 99, 99}};

    /** The least green with one villager, who takes it at once. */
    static final String ONE = LEAST + "villager cold 0 shy 0;";

    private Texts() {
    }

    static String green(int mornings, int law, int odds, int warm, int chill) {
        return "green mornings " + mornings + " law " + law + " odds " + odds + " warm " + warm + " chill " + chill + ";";
    }

    static String villager(int cold, int shy) {
        return "villager cold " + cold + " shy " + shy + ";";
    }

    static String wearer(int cold, int shy) {
        return "villager cold " + cold + " shy " + shy + " wears;";
    }
}

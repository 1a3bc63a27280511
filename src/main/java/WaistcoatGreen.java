/**
 * A green in winter, told as a text, and the one red waistcoat that goes from hand to hand on it.
 *
 * <p>Every row that a call needs is made with the object and used again, so that no call makes anything.
 */
public final class WaistcoatGreen {
    public static final int NONE = -1;

    private static final int NO_SUCH = -2;
    private static final int BELOW_ZERO = -3;
    private static final int FAULTY = -4;
    private static final int NOT_NOW = -5;
    private static final int NOTHING = -6;
    private static final int BEYOND = -7;
    private static final int UNLIKE = -8;
    private static final int NO_SHARE = -1_000_000;
    private static final int NO_WIN = -10_000;

    private static final int MOST_VILLAGERS = 7;
    private static final int MOST_HANDS = 12;
    private static final int MOST_FROSTS = 8;
    private static final int MOST_MORNINGS = 14;
    private static final int MOST_ACTS = 30;
    private static final int MOST_BYTES = 700;
    private static final int MOST_COLD = 99;
    private static final int MOST_COLD_TOLD = 60;
    private static final int MOST_SHY = 99;
    private static final int MOST_LAW = 3;
    private static final int MOST_PLANNED = 4;
    private static final int MOST_CHANCED = 8;
    private static final int MOST_SEED = 2_000_000_000;
    private static final int MOST_WINTERS = 20;
    private static final int MOST_NUMBERS = 60;
    private static final int MOST_WIDTH = 3;
    private static final int SLOTS = 4;
    private static final int IMAGES = 3;

    private static final int GIFT = 0;
    private static final int TUNE = 1;
    private static final int SONG = 10;
    private static final int HARDER = 5;
    private static final int PURSE = 1_000;
    private static final int PRIDE = 20;
    private static final int IN_TEN = 10;

    /** As shy as nobody can be cold: who is so would never take it. */
    private static final int NEVER = MOST_COLD + 1;

    private final Reader reader = new Reader();
    private final Green green = new Green();
    private final Green draft = new Green();
    private final Winter now = new Winter(green);
    private final Winter trial = new Winter(green);
    private final Planner planner = new Planner(trial);
    private final Guess guess = new Guess();
    private final Slot[] slots = new Slot[SLOTS];
    private final Green[] images = new Green[IMAGES];
    private final boolean[] kept = new boolean[IMAGES];
    private final int[] worths = new int[1 << MOST_VILLAGERS];

    public WaistcoatGreen() {
        for (int i = 0; i < SLOTS; i++) {
            slots[i] = new Slot();
        }
        for (int i = 0; i < IMAGES; i++) {
            images[i] = new Green();
        }
    }

    // ---- the tape and the green ----

    public int feed(int a, int b, int c, int d, int e) {
        if (reader.length + 20 > MOST_BYTES) {
            return NONE;
        }
        reader.put(a);
        reader.put(b);
        reader.put(c);
        reader.put(d);
        reader.put(e);
        return reader.length;
    }

    public int end(int n) {
        if (n < 0 || n > reader.length) {
            return NONE;
        }
        reader.length = n;
        return n;
    }

    public int green() {
        if (!reader.read(draft)) {
            return FAULTY;
        }
        reader.length = 0;
        green.copy(draft);
        settle();
        return green.lines;
    }

    public int fault(int what) {
        if (what == 0) {
            return reader.fault;
        }
        return what == 1 ? reader.faultPlace : NONE;
    }

    public int villager(int villager, int what) {
        if (!green.hasVillager(villager) || what < 0 || what > 1) {
            return NO_SUCH;
        }
        return what == 0 ? green.told[villager] : green.shy[villager];
    }

    public int hands(int villager) {
        return green.hasVillager(villager) ? green.joined[villager] : NO_SUCH;
    }

    public int far(int villager, int other) {
        if (!green.hasVillager(villager) || !green.hasVillager(other)) {
            return NO_SUCH;
        }
        int reached = 1 << villager;
        for (int steps = 0; steps < MOST_VILLAGERS; steps++) {
            if ((reached >> other & 1) == 1) {
                return steps;
            }
            reached = now.oneHandOn(reached);
        }
        return NONE;
    }

    public int reach(int villager) {
        return green.hasVillager(villager) ? now.reachedFrom(villager) : NO_SUCH;
    }

    public int cover() {
        return green.isTold() ? Integer.bitCount(leastCover()) : NO_SUCH;
    }

    public int covers() {
        return green.isTold() ? leastCover() : NO_SUCH;
    }

    // ---- morning by morning ----

    public int has(int morning) {
        return green.hasMorning(morning) ? now.holder[morning] : NO_SUCH;
    }

    public int cold(int villager, int morning) {
        if (!green.hasVillager(villager) || !green.hasMorning(morning)) {
            return NO_SUCH;
        }
        return now.coldOf(villager, morning);
    }

    public int takes(int morning) {
        return green.hasMorning(morning) ? now.takers(morning) : NO_SUCH;
    }

    public int coldest(int morning) {
        if (!green.hasMorning(morning)) {
            return NO_SUCH;
        }
        int found = NONE;
        for (int v = 0; v < green.villagers; v++) {
            if (found == NONE || now.coldOf(v, morning) > now.coldOf(found, morning)) {
                found = v;
            }
        }
        return found;
    }

    public int all(int morning) {
        return green.hasMorning(morning) ? now.coldOfAll(morning) : NO_SUCH;
    }

    public int passes(int morning) {
        return green.hasMorningBehind(morning) ? now.passed[morning] : NO_SUCH;
    }

    public int worn(int villager) {
        return green.hasVillager(villager) ? morningsWith(villager) : NO_SUCH;
    }

    public int gets(int villager) {
        return green.hasVillager(villager) ? firstWith(villager) : NO_SUCH;
    }

    public int keeps(int villager) {
        if (!green.hasVillager(villager)) {
            return NO_SUCH;
        }
        int most = 0;
        int run = 0;
        for (int m = 0; m <= green.mornings; m++) {
            run = now.holder[m] == villager ? run + 1 : 0;
            most = Math.max(most, run);
        }
        return most;
    }

    public int pump() {
        return green.isTold() ? morningsWith(NONE) : NO_SUCH;
    }

    public int right() {
        if (!green.isTold()) {
            return NO_SUCH;
        }
        int mornings = 0;
        for (int m = 0; m <= green.mornings; m++) {
            int holder = now.holder[m];
            if (holder != NONE && now.colderThan(holder, m) == 0) {
                mornings |= 1 << m;
            }
        }
        return mornings;
    }

    public int stops() {
        if (!green.isTold()) {
            return NO_SUCH;
        }
        int first = green.mornings;
        while (first > 0 && now.holder[first - 1] == now.holder[first]) {
            first--;
        }
        return first;
    }

    public int round() {
        if (!green.isTold()) {
            return NO_SUCH;
        }
        int wearers = 0;
        for (int m = 0; m <= green.mornings; m++) {
            if (now.holder[m] != NONE) {
                wearers |= 1 << now.holder[m];
            }
        }
        return wearers;
    }

    public int suffers(int villager) {
        return green.hasVillager(villager) ? now.sufferedBy(villager) : NO_SUCH;
    }

    public int sum() {
        return green.isTold() ? now.sufferedByAll() : NO_SUCH;
    }

    public int worst() {
        if (!green.isTold()) {
            return NO_SUCH;
        }
        int found = NONE;
        for (int v = 0; v < green.villagers; v++) {
            if (found == NONE || now.sufferedBy(v) > now.sufferedBy(found)) {
                found = v;
            }
        }
        return found;
    }

    public int freezes(int villager, int n) {
        if (!green.hasVillager(villager) || n < 0 || n > MOST_COLD) {
            return NO_SUCH;
        }
        for (int m = 0; m <= green.mornings; m++) {
            if (now.coldOf(villager, m) >= n) {
                return m;
            }
        }
        return NONE;
    }

    public int blue() {
        if (!green.isTold()) {
            return NO_SUCH;
        }
        int found = NONE;
        int most = NONE;
        for (int v = 0; v < green.villagers; v++) {
            for (int m = 0; m <= green.mornings; m++) {
                if (now.coldOf(v, m) > most) {
                    most = now.coldOf(v, m);
                    found = v;
                }
            }
        }
        return found;
    }

    public int alike(int morning) {
        if (!green.hasMorning(morning)) {
            return NO_SUCH;
        }
        int pairs = 0;
        for (int v = 0; v < green.villagers; v++) {
            for (int w = v + 1; w < green.villagers; w++) {
                if (green.areJoined(v, w) && now.coldOf(v, morning) == now.coldOf(w, morning)) {
                    pairs++;
                }
            }
        }
        return pairs;
    }

    public int colder(int villager, int morning) {
        if (!green.hasVillager(villager) || !green.hasMorning(morning)) {
            return NO_SUCH;
        }
        return now.colderThan(villager, morning);
    }

    public int near(int morning) {
        if (!green.hasMorning(morning)) {
            return NO_SUCH;
        }
        int holder = now.holder[morning];
        return now.takers(morning) & (holder == NONE ? green.everybody() : green.joined[holder]);
    }

    public int warmest(int morning) {
        if (!green.hasMorning(morning)) {
            return NO_SUCH;
        }
        int found = NONE;
        for (int v = 0; v < green.villagers; v++) {
            if (found == NONE || now.coldOf(v, morning) < now.coldOf(found, morning)) {
                found = v;
            }
        }
        return found;
    }

    public int frost(int morning) {
        return green.hasMorning(morning) && morning > 0 ? green.chillOn(morning) : NO_SUCH;
    }

    public int jumps() {
        if (!green.isTold()) {
            return NO_SUCH;
        }
        int times = 0;
        for (int m = 1; m <= green.mornings; m++) {
            if (now.holder[m] != now.holder[m - 1]) {
                times++;
            }
        }
        return times;
    }

    public int longest() {
        if (!green.isTold()) {
            return NO_SUCH;
        }
        int most = 1;
        int run = 1;
        for (int m = 1; m <= green.mornings; m++) {
            run = now.holder[m] == now.holder[m - 1] ? run + 1 : 1;
            most = Math.max(most, run);
        }
        return most;
    }

    public int fair() {
        if (!green.isTold()) {
            return NO_SUCH;
        }
        if (green.villagers == 0) {
            return 0;
        }
        int most = now.sufferedBy(0);
        int least = most;
        for (int v = 1; v < green.villagers; v++) {
            most = Math.max(most, now.sufferedBy(v));
            least = Math.min(least, now.sufferedBy(v));
        }
        return most - least;
    }

    public int rises(int villager) {
        if (!green.hasVillager(villager)) {
            return NO_SUCH;
        }
        int times = 0;
        for (int m = 1; m <= green.mornings; m++) {
            if (now.coldOf(villager, m) > now.coldOf(villager, m - 1)) {
                times++;
            }
        }
        return times;
    }

    public int waits(int villager) {
        if (!green.hasVillager(villager)) {
            return NO_SUCH;
        }
        int first = firstWith(villager);
        int behind = first == NONE ? green.mornings + 1 : first;
        int times = 0;
        for (int m = 0; m < behind; m++) {
            times += now.takers(m) >> villager & 1;
        }
        return times;
    }

    public int returns(int villager) {
        if (!green.hasVillager(villager)) {
            return NO_SUCH;
        }
        int first = firstWith(villager);
        int times = 0;
        for (int m = 1; m <= green.mornings; m++) {
            boolean comes = now.holder[m] == villager && now.holder[m - 1] != villager;
            if (comes && first < m) {
                times++;
            }
        }
        return times;
    }

    // ---- lies, another start, another hand ----

    public int lies(int villager) {
        return green.hasVillager(villager) ? bestLie(villager) : NO_SUCH;
    }

    public int gains(int villager) {
        return green.hasVillager(villager) ? gainOf(villager) : NO_SUCH;
    }

    public int liars() {
        if (!green.isTold()) {
            return NO_SUCH;
        }
        int found = 0;
        for (int v = 0; v < green.villagers; v++) {
            if (gainOf(v) > 0) {
                found |= 1 << v;
            }
        }
        return found;
    }

    public int start() {
        if (!green.isTold()) {
            return NO_SUCH;
        }
        int found = NONE;
        int least = now.sufferedByAll();
        trial.tell();
        for (int v = 0; v < green.villagers; v++) {
            trial.first = v;
            int sum = sumTried();
            if (sum < least) {
                least = sum;
                found = v;
            }
        }
        return found;
    }

    public int join() {
        if (!green.isTold()) {
            return NO_SUCH;
        }
        int found = NONE;
        int least = now.sufferedByAll();
        for (int v = 0; v < green.villagers; v++) {
            for (int w = v + 1; w < green.villagers; w++) {
                int sum = green.areJoined(v, w) ? least : sumJoined(v, w);
                if (sum < least) {
                    least = sum;
                    found = 10 * v + w;
                }
            }
        }
        return found;
    }

    // ---- plans ----

    public int plan(int n) {
        if (!canPlan(n)) {
            return NO_SUCH;
        }
        planner.search(n);
        return planner.least;
    }

    public int planned(int n, int k) {
        if (!canPlan(n) || k < 0 || k > n) {
            return NO_SUCH;
        }
        planner.search(n);
        return planner.row[k];
    }

    public int plans(int n) {
        if (!canPlan(n)) {
            return NO_SUCH;
        }
        planner.search(n);
        return planner.rows;
    }

    // ---- what was seen ----

    public int colds(int slot, int villager) {
        int refused = guessCold(slot, villager);
        return refused != 0 ? refused : guess.count;
    }

    public int low(int slot, int villager) {
        int refused = guessCold(slot, villager);
        return refused != 0 ? refused : guess.least;
    }

    public int high(int slot, int villager) {
        int refused = guessCold(slot, villager);
        return refused != 0 ? refused : guess.greatest;
    }

    public int ask(int slot, int villager) {
        int refused = guessCold(slot, villager);
        return refused != 0 ? refused : guess.bestMorning(green.mornings);
    }

    public int leaves(int slot, int villager) {
        int refused = guessCold(slot, villager);
        return refused != 0 ? refused : guess.leftBy(guess.bestMorning(green.mornings));
    }

    public int laws(int slot) {
        int refused = green.isTold() ? whyNotSeen(slot) : NO_SUCH;
        if (refused != 0) {
            return refused;
        }
        int found = 0;
        trial.tell();
        for (int law = 0; law <= MOST_LAW; law++) {
            trial.law = law;
            trial.play(green.mornings);
            if (trial.isAsSeen(slots[slot])) {
                found |= 1 << law;
            }
        }
        return found;
    }

    public int by(int law) {
        return green.isTold() && law >= 0 && law <= MOST_LAW ? sumByLaw(law) : NO_SUCH;
    }

    public int law() {
        if (!green.isTold()) {
            return NO_SUCH;
        }
        int found = 0;
        for (int law = 1; law <= MOST_LAW; law++) {
            if (sumByLaw(law) < sumByLaw(found)) {
                found = law;
            }
        }
        return found;
    }

    // ---- sets, and two who refuse ----

    public int worth(int set) {
        if (!green.isTold() || set < 0 || set > green.everybody()) {
            return NO_SUCH;
        }
        return worthOf(set);
    }

    public int share(int villager, int what) {
        if (!green.hasVillager(villager) || what < 0 || what > 1) {
            return NO_SHARE;
        }
        int sets = 1 << green.villagers;
        for (int set = 0; set < sets; set++) {
            worths[set] = worthOf(set);
        }
        long above = 0;
        for (int set = 0; set < sets; set++) {
            if ((set >> villager & 1) == 0) {
                int size = Integer.bitCount(set);
                long orders = factorial(size) * factorial(green.villagers - 1 - size);
                above += orders * (worths[set | 1 << villager] - worths[set]);
            }
        }
        return (int) lowestTerm(above, factorial(green.villagers), what);
    }

    public int rests(int villager, int other) {
        if (!areTwo(villager, other)) {
            return NO_SUCH;
        }
        int found = 0;
        for (int pair = 0; pair < 4; pair++) {
            if (isAtRest(villager, other, pair & 1, pair >> 1)) {
                found |= 1 << pair;
            }
        }
        return found;
    }

    public int wins(int villager, int other, int refuses, int otherRefuses) {
        boolean choices = refuses >= 0 && refuses <= 1 && otherRefuses >= 0 && otherRefuses <= 1;
        return areTwo(villager, other) && choices ? winOf(villager, other, refuses, otherRefuses) : NO_WIN;
    }

    // ---- chance ----

    public int chance(int villager, int morning, int what) {
        if (!green.hasVillager(villager) || !canChance(morning) || what < 0 || what > 1) {
            return NO_SUCH;
        }
        long above = 0;
        trial.tell();
        for (int winter = 0; winter < 1 << morning; winter++) {
            long weight = tryWinter(winter, morning);
            if (trial.holder[morning] == villager) {
                above += weight;
            }
        }
        return (int) lowestTerm(above, power(IN_TEN, morning), what);
    }

    public long mean(int morning, int what) {
        if (!canChance(morning) || what < 0 || what > 1) {
            return NO_SUCH;
        }
        long above = 0;
        trial.tell();
        for (int winter = 0; winter < 1 << morning; winter++) {
            long weight = tryWinter(winter, morning);
            above += weight * trial.coldOfAll(morning);
        }
        return lowestTerm(above, power(IN_TEN, morning), what);
    }

    // ---- acts ----

    public int gives(int villager, int morning) {
        if (!green.hasVillager(villager) || !green.hasMorningBehind(morning)) {
            return NO_SUCH;
        }
        if (green.acts >= MOST_ACTS) {
            return NOT_NOW;
        }
        green.act(GIFT, villager, morning);
        settle();
        return now.holder[green.mornings];
    }

    public int sings(int villager, int morning) {
        if (!green.hasVillager(villager) || !green.hasMorning(morning)) {
            return NO_SUCH;
        }
        if (green.acts >= MOST_ACTS) {
            return NOT_NOW;
        }
        green.act(TUNE, villager, morning);
        settle();
        return now.coldOf(villager, morning);
    }

    public int undo() {
        if (!green.isTold()) {
            return NO_SUCH;
        }
        if (green.acts == 0) {
            return NOT_NOW;
        }
        green.acts--;
        settle();
        return green.acts;
    }

    public int anew() {
        if (!green.isTold()) {
            return NO_SUCH;
        }
        int were = green.acts;
        green.acts = 0;
        settle();
        return were;
    }

    // ---- winters drawn ----

    public int drawn(int seed, int what) {
        if (!green.isTold() || !isSeed(seed) || what < 0 || what > 1) {
            return NO_SUCH;
        }
        int hard = drawHard(seed);
        if (what == 0) {
            return hard;
        }
        trial.tell();
        trial.hard = hard;
        trial.play(green.mornings);
        return trial.holder[green.mornings];
    }

    public int luck(int seed, int n, int villager) {
        if (!green.hasVillager(villager) || !isSeed(seed) || n < 1 || n > MOST_WINTERS) {
            return NO_SUCH;
        }
        int times = 0;
        trial.tell();
        for (int i = 0; i < n; i++) {
            trial.hard = drawHard(seed + i);
            trial.play(green.mornings);
            if (trial.everHas(villager)) {
                times++;
            }
        }
        return times;
    }

    public int rate(int villager, int n) {
        if (!green.hasVillager(villager) || n < 0 || n > MOST_SHY) {
            return NO_SUCH;
        }
        if (green.acts > 0) {
            return NOT_NOW;
        }
        int was = green.shy[villager];
        green.shy[villager] = n;
        settle();
        return was;
    }

    public int count(int what) {
        switch (what) {
            case 0:
                return green.mornings;
            case 1:
                return green.law;
            case 2:
                return green.odds;
            case 3:
                return green.warm;
            case 4:
                return green.chill;
            case 5:
                return green.villagers;
            case 6:
                return green.hands;
            case 7:
                return green.frosts;
            case 8:
                return green.acts;
            case 9:
                return green.lines;
            case 10:
                return reader.length;
            case 11:
                return slotsWithRow();
            default:
                return NONE;
        }
    }

    // ---- images ----

    public int image(int k) {
        if (k < 0 || k >= IMAGES) {
            return NO_SUCH;
        }
        images[k].copy(green);
        kept[k] = true;
        return 0;
    }

    public int back(int k) {
        if (k < 0 || k >= IMAGES) {
            return NO_SUCH;
        }
        if (!kept[k]) {
            return NOTHING;
        }
        green.copy(images[k]);
        settle();
        return 0;
    }

    // ---- slots ----

    public int row(int slot, int width, int n) {
        if (!isSlot(slot) || width < 0 || width > MOST_WIDTH || n > MOST_NUMBERS) {
            return NO_SUCH;
        }
        if (n < 0) {
            return BELOW_ZERO;
        }
        slots[slot].renew(width, n);
        return 0;
    }

    public int write(int slot, int i, long v) {
        if (!isSlot(slot)) {
            return NO_SUCH;
        }
        Slot into = slots[slot];
        if (!into.hasRow) {
            return NOTHING;
        }
        if (i < 0 || i >= into.size) {
            return BEYOND;
        }
        into.numbers[i] = into.cut(v);
        return 0;
    }

    public int paste(int slot, int i, int to, int k, int n) {
        if (!isSlot(slot) || !isSlot(to)) {
            return NO_SUCH;
        }
        Slot from = slots[slot];
        Slot into = slots[to];
        if (!from.hasRow || !into.hasRow) {
            return NOTHING;
        }
        if (from.width != into.width) {
            return UNLIKE;
        }
        if (!from.holds(i, n) || !into.holds(k, n)) {
            return BEYOND;
        }
        System.arraycopy(from.numbers, i, into.numbers, k, n);
        return 0;
    }

    // ---- helpers ----

    /** What the mornings bring is kept played, so that asking about them costs nothing. */
    private void settle() {
        now.tell();
        now.play(green.mornings);
    }

    /** Fewer villagers go ahead, then the least number: the first set that does is the one. */
    private int leastCover() {
        int everybody = green.everybody();
        for (int size = 0; size < green.villagers; size++) {
            for (int set = 0; set < everybody; set++) {
                if (Integer.bitCount(set) == size && now.oneHandOn(set) == everybody) {
                    return set;
                }
            }
        }
        return everybody;
    }

    private int morningsWith(int holder) {
        int times = 0;
        for (int m = 0; m <= green.mornings; m++) {
            if (now.holder[m] == holder) {
                times++;
            }
        }
        return times;
    }

    private int firstWith(int holder) {
        for (int m = 0; m <= green.mornings; m++) {
            if (now.holder[m] == holder) {
                return m;
            }
        }
        return NONE;
    }

    private int bestLie(int villager) {
        int found = 0;
        trial.tell();
        trial.shy[villager] = 0;
        trial.play(green.mornings);
        int least = trial.sufferedBy(villager);
        for (int shy = 1; shy <= MOST_SHY; shy++) {
            trial.shy[villager] = shy;
            // One more of shyness tells only on a morning when he is just as cold as he was shy.
            if (trial.isEverAsCold(villager, shy - 1)) {
                trial.play(green.mornings);
                if (trial.sufferedBy(villager) < least) {
                    least = trial.sufferedBy(villager);
                    found = shy;
                }
            }
        }
        return found;
    }

    private int gainOf(int villager) {
        int lie = bestLie(villager);
        trial.tell();
        trial.shy[villager] = lie;
        trial.play(green.mornings);
        return now.sufferedBy(villager) - trial.sufferedBy(villager);
    }

    private int sumTried() {
        trial.play(green.mornings);
        return trial.sufferedByAll();
    }

    private int sumJoined(int villager, int other) {
        trial.tell();
        trial.joined[villager] |= 1 << other;
        trial.joined[other] |= 1 << villager;
        return sumTried();
    }

    private int sumByLaw(int law) {
        trial.tell();
        trial.law = law;
        return sumTried();
    }

    private boolean canPlan(int n) {
        return green.isTold() && n >= 1 && n <= MOST_PLANNED && n <= green.mornings;
    }

    private boolean canChance(int morning) {
        return green.hasMorning(morning) && morning >= 1 && morning <= MOST_CHANCED;
    }

    private boolean areTwo(int villager, int other) {
        return green.hasVillager(villager) && green.hasVillager(other) && villager != other;
    }

    private static boolean isSlot(int slot) {
        return slot >= 0 && slot < SLOTS;
    }

    private static boolean isSeed(int seed) {
        return seed >= 0 && seed <= MOST_SEED;
    }

    private int slotsWithRow() {
        int found = 0;
        for (int i = 0; i < SLOTS; i++) {
            if (slots[i].hasRow) {
                found++;
            }
        }
        return found;
    }

    /** Why a slot's row tells nothing that can have been seen on the green, 0 if it does; the green is there. */
    private int whyNotSeen(int slot) {
        if (!isSlot(slot)) {
            return NO_SUCH;
        }
        Slot seen = slots[slot];
        if (!seen.hasRow) {
            return NOTHING;
        }
        return seen.canBeSeen(green) ? 0 : NO_SUCH;
    }

    private int guessCold(int slot, int villager) {
        int refused = green.hasVillager(villager) ? whyNotSeen(slot) : NO_SUCH;
        if (refused != 0) {
            return refused;
        }
        guess.clear();
        trial.tell();
        for (int cold = 0; cold <= MOST_COLD_TOLD; cold++) {
            trial.told[villager] = cold;
            trial.play(green.mornings);
            if (trial.isAsSeen(slots[slot])) {
                guess.add(cold, trial, green.mornings);
            }
        }
        return 0;
    }

    private int worthOf(int set) {
        trial.tell();
        trial.leaveTo(set);
        trial.play(green.mornings);
        int times = 0;
        for (int m = 0; m <= green.mornings; m++) {
            if (trial.holder[m] != NONE) {
                times++;
            }
        }
        return times;
    }

    private int winOf(int villager, int other, int refuses, int otherRefuses) {
        trial.tell();
        if (refuses == 1) {
            trial.shy[villager] = NEVER;
        }
        if (otherRefuses == 1) {
            trial.shy[other] = NEVER;
        }
        trial.play(green.mornings);
        return PURSE - trial.sufferedBy(villager) + PRIDE * refuses;
    }

    private boolean isAtRest(int villager, int other, int refuses, int otherRefuses) {
        int win = winOf(villager, other, refuses, otherRefuses);
        int otherWin = winOf(other, villager, otherRefuses, refuses);
        return winOf(villager, other, 1 - refuses, otherRefuses) <= win
                && winOf(other, villager, 1 - otherRefuses, refuses) <= otherWin;
    }

    /** Plays a winter whose hard mornings are bits, the first of them morning 1; how likely it is, of 10 to so many. */
    private long tryWinter(int winter, int morning) {
        trial.hard = winter << 1;
        trial.play(morning);
        int hard = Integer.bitCount(winter);
        return power(green.odds, hard) * power(IN_TEN - green.odds, morning - hard);
    }

    private int drawHard(int seed) {
        int hard = 0;
        long x = seed;
        for (int m = 1; m <= green.mornings; m++) {
            x = (1_103_515_245L * x + 12_345L) % 2_147_483_648L;
            if (x / 65_536 % IN_TEN < green.odds) {
                hard |= 1 << m;
            }
        }
        return hard;
    }

    private static long factorial(int n) {
        long product = 1;
        for (int i = 2; i <= n; i++) {
            product *= i;
        }
        return product;
    }

    private static long power(int base, int times) {
        long product = 1;
        for (int i = 0; i < times; i++) {
            product *= base;
        }
        return product;
    }

    /** Of a fraction in lowest terms the number above (what 0) or below (what 1); below is above 0. */
    private static long lowestTerm(long above, long below, int what) {
        long a = below;
        long b = Math.abs(above);
        for (int i = 0; i < 200 && b != 0; i++) {
            long rest = a % b;
            a = b;
            b = rest;
        }
        if (a <= 0) {
            return 0;
        }
        return (what == 0 ? above : below) / a;
    }

    /** What the text tells, and what was done since. Without lines there is no green, and all its counts are 0. */
    private static final class Green {
        int lines;
        int mornings;
        int law;
        int odds;
        int warm;
        int chill;
        int villagers;
        int hands;
        int frosts;
        int wearer = NONE;
        int acts;
        final int[] told = new int[MOST_VILLAGERS];
        final int[] shy = new int[MOST_VILLAGERS];
        final int[] joined = new int[MOST_VILLAGERS];
        final int[] frostOn = new int[MOST_MORNINGS + 1];
        final int[] actKind = new int[MOST_ACTS];
        final int[] actVillager = new int[MOST_ACTS];
        final int[] actMorning = new int[MOST_ACTS];

        boolean isTold() {
            return lines > 0;
        }

        boolean hasVillager(int villager) {
            return villager >= 0 && villager < villagers;
        }

        boolean hasMorning(int morning) {
            return isTold() && morning >= 0 && morning <= mornings;
        }

        boolean hasMorningBehind(int morning) {
            return isTold() && morning >= 0 && morning < mornings;
        }

        int everybody() {
            return (1 << villagers) - 1;
        }

        boolean areJoined(int villager, int other) {
            return (joined[villager] >> other & 1) == 1;
        }

        int chillOn(int morning) {
            return chill + frostOn[morning];
        }

        void addVillager(int cold, int howShy) {
            told[villagers] = cold;
            shy[villagers] = howShy;
            villagers++;
        }

        void addHand(int villager, int other) {
            joined[villager] |= 1 << other;
            joined[other] |= 1 << villager;
            hands++;
        }

        void addFrost(int by, int morning) {
            frostOn[morning] += by;
            frosts++;
        }

        /** There is room for one more. */
        void act(int kind, int villager, int morning) {
            actKind[acts] = kind;
            actVillager[acts] = villager;
            actMorning[acts] = morning;
            acts++;
        }

        void clear() {
            lines = 0;
            mornings = 0;
            law = 0;
            odds = 0;
            warm = 0;
            chill = 0;
            villagers = 0;
            hands = 0;
            frosts = 0;
            wearer = NONE;
            acts = 0;
            for (int v = 0; v < MOST_VILLAGERS; v++) {
                joined[v] = 0;
            }
            for (int m = 0; m <= MOST_MORNINGS; m++) {
                frostOn[m] = 0;
            }
        }

        void copy(Green from) {
            lines = from.lines;
            mornings = from.mornings;
            law = from.law;
            odds = from.odds;
            warm = from.warm;
            chill = from.chill;
            villagers = from.villagers;
            hands = from.hands;
            frosts = from.frosts;
            wearer = from.wearer;
            acts = from.acts;
            System.arraycopy(from.told, 0, told, 0, MOST_VILLAGERS);
            System.arraycopy(from.shy, 0, shy, 0, MOST_VILLAGERS);
            System.arraycopy(from.joined, 0, joined, 0, MOST_VILLAGERS);
            System.arraycopy(from.frostOn, 0, frostOn, 0, MOST_MORNINGS + 1);
            System.arraycopy(from.actKind, 0, actKind, 0, MOST_ACTS);
            System.arraycopy(from.actVillager, 0, actVillager, 0, MOST_ACTS);
            System.arraycopy(from.actMorning, 0, actMorning, 0, MOST_ACTS);
        }
    }

    /** The mornings of a green, as told or with something changed: tell(), change a field, play(), look. */
    private static final class Winter {
        final Green green;
        int law;
        int first;
        int hard;
        final int[] told = new int[MOST_VILLAGERS];
        final int[] shy = new int[MOST_VILLAGERS];
        final int[] joined = new int[MOST_VILLAGERS];
        final int[] given = new int[MOST_MORNINGS + 1];
        final int[] songs = new int[(MOST_MORNINGS + 1) * MOST_VILLAGERS];
        final int[] holder = new int[MOST_MORNINGS + 1];
        final int[] passed = new int[MOST_MORNINGS + 1];
        final int[] cold = new int[(MOST_MORNINGS + 1) * MOST_VILLAGERS];

        Winter(Green green) {
            this.green = green;
        }

        private static int at(int villager, int morning) {
            return morning * MOST_VILLAGERS + villager;
        }

        /** All is as the green tells it now. */
        void tell() {
            law = green.law;
            first = green.wearer;
            hard = 0;
            System.arraycopy(green.told, 0, told, 0, MOST_VILLAGERS);
            System.arraycopy(green.shy, 0, shy, 0, MOST_VILLAGERS);
            System.arraycopy(green.joined, 0, joined, 0, MOST_VILLAGERS);
            giveTo(green.everybody());
            countSongs();
        }

        /** None but a set would ever take it, or have it at first, or be given it. */
        void leaveTo(int set) {
            for (int v = 0; v < green.villagers; v++) {
                if ((set >> v & 1) == 0) {
                    shy[v] = NEVER;
                }
            }
            if (first != NONE && (set >> first & 1) == 0) {
                first = NONE;
            }
            giveTo(set);
        }

        private void giveTo(int set) {
            for (int m = 0; m <= MOST_MORNINGS; m++) {
                given[m] = NONE;
            }
            for (int i = 0; i < green.acts; i++) {
                if (green.actKind[i] == GIFT && (set >> green.actVillager[i] & 1) == 1) {
                    given[green.actMorning[i]] = green.actVillager[i];
                }
            }
        }

        private void countSongs() {
            for (int i = 0; i < songs.length; i++) {
                songs[i] = 0;
            }
            for (int i = 0; i < green.acts; i++) {
                if (green.actKind[i] == TUNE) {
                    songs[at(green.actVillager[i], green.actMorning[i])]++;
                }
            }
        }

        /** Plays the mornings 0 to a last one, which the green has. */
        void play(int last) {
            begin();
            for (int m = 0; m < last; m++) {
                passed[m] = given[m] == NONE ? passedByLaw(m) : NONE;
                int to = given[m] == NONE ? passed[m] : given[m];
                holder[m + 1] = to == NONE ? holder[m] : to;
                freeze(m + 1);
            }
        }

        void begin() {
            holder[0] = first;
            for (int v = 0; v < green.villagers; v++) {
                cold[at(v, 0)] = Math.max(0, told[v] - SONG * songs[at(v, 0)]);
            }
        }

        /** How cold all are on a morning from 1 on, when it is known who has it then. */
        void freeze(int morning) {
            int colder = green.chillOn(morning) + HARDER * (hard >> morning & 1);
            for (int v = 0; v < green.villagers; v++) {
                int before = coldOf(v, morning - 1);
                int after = holder[morning] == v
                        ? Math.max(0, before - green.warm)
                        : Math.min(MOST_COLD, before + colder);
                cold[at(v, morning)] = Math.max(0, after - SONG * songs[at(v, morning)]);
            }
        }

        private int passedByLaw(int morning) {
            int from = holder[morning];
            int open = takers(morning);
            if (from != NONE) {
                open &= colderThan(from, morning) & (law == 2 ? reachedFrom(from) : joined[from]);
            }
            int found = NONE;
            for (int v = 0; v < green.villagers; v++) {
                if ((open >> v & 1) == 1 && (found == NONE || isPreferred(v, found, morning))) {
                    found = v;
                }
            }
            return found;
        }

        /** Whether one who is told later goes ahead of one who was found. */
        private boolean isPreferred(int villager, int found, int morning) {
            int difference = coldOf(villager, morning) - coldOf(found, morning);
            if (holder[morning] == NONE || law == 0 || law == 2) {
                return difference > 0;
            }
            return law == 3 && difference < 0;
        }

        int coldOf(int villager, int morning) {
            return cold[morning * MOST_VILLAGERS + villager];
        }

        int coldOfAll(int morning) {
            int sum = 0;
            for (int v = 0; v < green.villagers; v++) {
                sum += coldOf(v, morning);
            }
            return sum;
        }

        int takers(int morning) {
            int found = 0;
            for (int v = 0; v < green.villagers; v++) {
                if (coldOf(v, morning) >= shy[v]) {
                    found |= 1 << v;
                }
            }
            return found;
        }

        int colderThan(int villager, int morning) {
            int found = 0;
            for (int v = 0; v < green.villagers; v++) {
                if (coldOf(v, morning) > coldOf(villager, morning)) {
                    found |= 1 << v;
                }
            }
            return found;
        }

        /** A set, and all to whom a hand goes from it. */
        int oneHandOn(int set) {
            int found = set;
            for (int v = 0; v < green.villagers; v++) {
                if ((set >> v & 1) == 1) {
                    found |= joined[v];
                }
            }
            return found;
        }

        int reachedFrom(int villager) {
            int found = 1 << villager;
            for (int steps = 1; steps < MOST_VILLAGERS; steps++) {
                found = oneHandOn(found);
            }
            return found;
        }

        int sufferedBy(int villager) {
            int sum = 0;
            for (int m = 0; m <= green.mornings; m++) {
                sum += coldOf(villager, m);
            }
            return sum;
        }

        int sufferedByAll() {
            int sum = 0;
            for (int m = 0; m <= green.mornings; m++) {
                sum += coldOfAll(m);
            }
            return sum;
        }

        boolean isEverAsCold(int villager, int n) {
            for (int m = 0; m <= green.mornings; m++) {
                if (coldOf(villager, m) == n) {
                    return true;
                }
            }
            return false;
        }

        boolean everHas(int villager) {
            for (int m = 0; m <= green.mornings; m++) {
                if (holder[m] == villager) {
                    return true;
                }
            }
            return false;
        }

        boolean isAsSeen(Slot seen) {
            for (int i = 0; i + 1 < seen.size; i += 2) {
                long morning = seen.numbers[i];
                if (morning < 0 || morning > green.mornings || holder[(int) morning] != seen.numbers[i + 1]) {
                    return false;
                }
            }
            return true;
        }
    }

    /** Looks for the rows of some mornings by which all suffer least. */
    private static final class Planner {
        /** More than all can suffer on so few mornings. */
        private static final int BEYOND_ALL = 1_000_000;

        final Winter winter;
        final int[] row = new int[MOST_PLANNED + 1];
        int last;
        int least;
        int rows;

        Planner(Winter winter) {
            this.winter = winter;
        }

        /** No more mornings than the green has. */
        void search(int n) {
            last = Math.min(n, MOST_PLANNED);
            least = BEYOND_ALL;
            rows = 0;
            winter.tell();
            winter.begin();
            goOn(this, 0, winter.coldOfAll(0));
        }

        /** Rows are tried from the least on, so that the first of several stays. */
        private static void goOn(Planner planner, int morning, int suffered) {
            if (morning >= planner.last) {
                planner.weigh(suffered);
                return;
            }
            Winter winter = planner.winter;
            for (int next = NONE; next < winter.green.villagers; next++) {
                if (planner.canGo(winter.holder[morning], next)) {
                    winter.holder[morning + 1] = next;
                    winter.freeze(morning + 1);
                    goOn(planner, morning + 1, suffered + winter.coldOfAll(morning + 1));
                }
            }
        }

        private boolean canGo(int from, int to) {
            if (from == NONE || from == to) {
                return true;
            }
            return to != NONE && winter.green.areJoined(from, to);
        }

        private void weigh(int suffered) {
            if (suffered < least) {
                least = suffered;
                rows = 0;
                System.arraycopy(winter.holder, 0, row, 0, last + 1);
            }
            if (suffered == least) {
                rows++;
            }
        }
    }

    /** How cold one can have been told, and how many of these have it with whom on each morning. */
    private static final class Guess {
        final int[] tally = new int[(MOST_MORNINGS + 1) * (MOST_VILLAGERS + 1)];
        int count;
        int least;
        int greatest;

        void clear() {
            count = 0;
            least = NONE;
            greatest = NONE;
            for (int i = 0; i < tally.length; i++) {
                tally[i] = 0;
            }
        }

        private static int at(int holder, int morning) {
            return morning * (MOST_VILLAGERS + 1) + holder + 1;
        }

        void add(int cold, Winter winter, int mornings) {
            if (count == 0) {
                least = cold;
            }
            greatest = cold;
            count++;
            for (int m = 0; m <= mornings; m++) {
                tally[at(winter.holder[m], m)]++;
            }
        }

        int bestMorning(int mornings) {
            int found = NONE;
            for (int m = 0; m <= mornings; m++) {
                if (leftBy(m) < leftBy(found)) {
                    found = m;
                }
            }
            return found;
        }

        /** How many are left at worst behind knowing of a morning, or of none. */
        int leftBy(int morning) {
            if (morning == NONE) {
                return count;
            }
            int most = 0;
            for (int holder = NONE; holder < MOST_VILLAGERS; holder++) {
                most = Math.max(most, tally[at(holder, morning)]);
            }
            return most;
        }
    }

    /** A row of numbers of a width, or nothing. */
    private static final class Slot {
        final long[] numbers = new long[MOST_NUMBERS];
        boolean hasRow;
        int width;
        int size;

        void renew(int newWidth, int newSize) {
            hasRow = true;
            width = newWidth;
            size = newSize;
            for (int i = 0; i < MOST_NUMBERS; i++) {
                numbers[i] = 0;
            }
        }

        long cut(long v) {
            switch (width) {
                case 0:
                    return (byte) v;
                case 1:
                    return (short) v;
                case 2:
                    return (int) v;
                default:
                    return v;
            }
        }

        boolean holds(int place, int n) {
            return place >= 0 && n >= 0 && (long) place + n <= size;
        }

        /** Two numbers each: a morning of the green, and one of its villagers or the pump. */
        boolean canBeSeen(Green green) {
            if (size % 2 != 0) {
                return false;
            }
            for (int i = 0; i + 1 < size; i += 2) {
                boolean isMorning = numbers[i] >= 0 && numbers[i] <= green.mornings;
                boolean isHolder = numbers[i + 1] >= NONE && numbers[i + 1] < green.villagers;
                if (!isMorning || !isHolder) {
                    return false;
                }
            }
            return true;
        }
    }

    /** The tape, and the reading of it up to its first fault. */
    private static final class Reader {
        private static final int END = 0;
        private static final int WORD = 1;
        private static final int NUMBER = 2;
        private static final int SEMICOLON = 3;
        private static final int OTHER = 4;

        private static final int MISPLACED = 1;
        private static final int NOT_AS_SAID = 2;
        private static final int TOO_MANY = 3;

        /** Numbers stop growing here, far above every bound. */
        private static final int HUGE = 1_000_000;

        final byte[] tape = new byte[MOST_BYTES];
        int length;
        int fault;
        int faultPlace = NONE;
        private int kind;
        private int place;
        private int behind;
        private int value;

        /** There is room for four bytes more. */
        void put(int number) {
            tape[length] = (byte) (number >> 24);
            tape[length + 1] = (byte) (number >> 16);
            tape[length + 2] = (byte) (number >> 8);
            tape[length + 3] = (byte) number;
            length += 4;
        }

        boolean read(Green into) {
            into.clear();
            fault = 0;
            faultPlace = NONE;
            behind = 0;
            next();
            for (int i = 0; i <= length && kind != END && fault == 0; i++) {
                if (into.lines == 0) {
                    readGreen(into);
                } else if (isAt("villager")) {
                    readVillager(into);
                } else if (isAt("hand")) {
                    readHand(into);
                } else if (isAt("frost")) {
                    readFrost(into);
                } else {
                    blame(MISPLACED);
                }
                closeLine(into);
            }
            return fault == 0;
        }

        private void closeLine(Green into) {
            if (kind != SEMICOLON) {
                blame(MISPLACED);
            }
            if (fault == 0) {
                into.lines++;
                next();
            }
        }

        private void readGreen(Green into) {
            pass("green");
            into.mornings = readNamed("mornings", 1, MOST_MORNINGS);
            into.law = readNamed("law", 0, MOST_LAW);
            into.odds = readNamed("odds", 0, IN_TEN);
            into.warm = readNamed("warm", 0, 40);
            into.chill = readNamed("chill", 0, 20);
        }

        private void readVillager(Green into) {
            if (into.villagers >= MOST_VILLAGERS) {
                blame(TOO_MANY);
            }
            pass("villager");
            int cold = readNamed("cold", 0, MOST_COLD_TOLD);
            int shy = readNamed("shy", 0, MOST_SHY);
            if (fault == 0 && isAt("wears")) {
                readWears(into);
            }
            if (fault == 0) {
                into.addVillager(cold, shy);
            }
        }

        private void readWears(Green into) {
            if (into.wearer != NONE) {
                blame(NOT_AS_SAID);
            }
            into.wearer = into.villagers;
            pass("wears");
        }

        private void readHand(Green into) {
            if (into.hands >= MOST_HANDS) {
                blame(TOO_MANY);
            }
            pass("hand");
            int villager = readNumber(0, into.villagers - 1, NONE);
            int other = readNumber(0, into.villagers - 1, villager);
            if (fault == 0) {
                into.addHand(villager, other);
            }
        }

        private void readFrost(Green into) {
            if (into.frosts >= MOST_FROSTS) {
                blame(TOO_MANY);
            }
            pass("frost");
            int by = readNumber(1, 40, NONE);
            int morning = readNamed("at", 1, MOST_MORNINGS);
            if (fault == 0) {
                into.addFrost(by, morning);
            }
        }

        private int readNamed(String word, int least, int most) {
            pass(word);
            return readNumber(least, most, NONE);
        }

        /** A number in its bounds but for one; NONE behind a fault. */
        private int readNumber(int least, int most, int butFor) {
            if (fault == 0 && kind != NUMBER) {
                blame(MISPLACED);
            }
            int number = value;
            if (fault == 0 && (number < least || number > most || number == butFor)) {
                blame(NOT_AS_SAID);
            }
            if (fault != 0) {
                return NONE;
            }
            next();
            return number;
        }

        private void pass(String word) {
            if (fault == 0 && !isAt(word)) {
                blame(MISPLACED);
            }
            if (fault == 0) {
                next();
            }
        }

        /** The first fault stays: reading goes from the first byte on. */
        private void blame(int what) {
            if (fault == 0) {
                fault = what;
                faultPlace = place;
            }
        }

        private boolean isAt(String word) {
            if (kind != WORD || behind - place != word.length()) {
                return false;
            }
            for (int i = 0; i < word.length(); i++) {
                if (tape[place + i] != word.charAt(i)) {
                    return false;
                }
            }
            return true;
        }

        private void next() {
            place = behind;
            while (place < length && (tape[place] == ' ' || tape[place] == '\n')) {
                place++;
            }
            kind = kindAt(place);
            value = 0;
            behind = kind == END ? place : place + 1;
            if (kind == NUMBER) {
                value = tape[place] - '0';
            }
            boolean grows = kind == WORD || kind == NUMBER;
            while (grows && behind < length && kindAt(behind) == kind) {
                if (kind == NUMBER && value < HUGE) {
                    value = value * 10 + tape[behind] - '0';
                }
                behind++;
            }
        }

        private int kindAt(int i) {
            if (i >= length) {
                return END;
            }
            int sign = tape[i];
            if (sign >= 'a' && sign <= 'z') {
                return WORD;
            }
            if (sign >= '0' && sign <= '9') {
                return NUMBER;
            }
            return sign == ';' ? SEMICOLON : OTHER;
        }
    }
}

import java.util.ArrayList;
import java.util.Arrays;
import java.util.List;

/**
 * Every argument of every call at its least, its greatest and one beyond each, in greens from none to full: a call within
 * its bounds answers as the model does; one beyond them answers its refusal, and leaves all as it was.
 */
final class RefusedBounds {
    /** A green, and how far its calls' arguments go. */
    private record State(String name, Script script, int villagers, int mornings, int bytes) {
    }

    /** A call of one promise: its refusal, and for each argument the least and the greatest. */
    private record Call(int promise, String name, long refusal, int... bounds) {
    }

    private static final int SEEDS = 2_000_000_000;

    private RefusedBounds() {
    }

    static void run() {
        for (State state : states()) {
            for (Call call : calls(state)) {
                within(state, call);
                beyond(state, call);
            }
            questionsLeaveAll(state);
            oneBehindAnother(state);
        }
        refusedLater();
        withoutGreen();
    }

    // ---- states ----

    private static List<State> states() {
        String one = Texts.green(1, 0, 5, 3, 4) + Texts.villager(9, 9);
        String four = Texts.green(4, 0, 5, 10, 2) + Texts.villager(20, 10) + Texts.wearer(30, 25) + Texts.villager(25, 40)
                + Texts.villager(5, 0) + "hand 0 1;hand 1 2;frost 7 at 2;frost 3 at 2;";
        String nine = Texts.green(9, 2, 3, 10, 4) + Texts.villager(20, 30) + Texts.villager(30, 32) + Texts.villager(10, 50)
                + "hand 0 1;hand 2 1;frost 7 at 2;frost 20 at 8;";
        List<State> all = new ArrayList<>();
        all.add(new State("one", kept(one, 0), 1, 1, 5));
        all.add(new State("four", kept(four, 3).then("gives", 3, 1).then("sings", 0, 2), 4, 4, 5));
        all.add(new State("nine", kept(nine, 0), 3, 9, 5));
        all.add(new State("full", kept(Texts.FULL, 2).then("gives", 3, 5), 7, 14, 5));
        return all;
    }

    /** A green with rows in all slots, three images, a fault and a tape of five bytes. */
    private static Script kept(String text, int songs) {
        Script script = new Script().then("image", 2).text(text).then("green").then("image", 0).row(0, 0).row(1, 0, 1, 0)
                .row(2, 3, 0, -1, 1, 0, 9, 9).row(3, 1, 1, 0, 1);
        for (int i = 0; i < songs; i++) {
            script.then("sings", i, i + 1);
        }
        return script.then("image", 1).text("green").then("green");
    }

    private static List<Call> calls(State state) {
        int v = state.villagers - 1;
        int m = state.mornings;
        int some = Math.min(4, m);
        int chanced = Math.min(8, m);
        List<Call> all = new ArrayList<>();
        all.add(new Call(3, "end", -1, 0, state.bytes));
        all.add(new Call(6, "villager", -2, 0, v, 0, 1));
        ofVillagers(all, v, 7, "hands", 9, "reach", 18, "worn", 19, "gets", 20, "keeps", 25, "suffers", 38, "rises",
                39, "waits", 40, "returns", 41, "lies", 42, "gains");
        all.add(new Call(8, "far", -2, 0, v, 0, v));
        for (Object[] each : new Object[][] {{12, "has"}, {14, "takes"}, {15, "coldest"}, {16, "all"}, {30, "alike"},
            {32, "near"}, {33, "warmest"}}) {
            all.add(new Call((Integer) each[0], (String) each[1], -2, 0, m));
        }
        all.add(new Call(13, "cold", -2, 0, v, 0, m));
        all.add(new Call(17, "passes", -2, 0, m - 1));
        all.add(new Call(28, "freezes", -2, 0, v, 0, 99));
        all.add(new Call(31, "colder", -2, 0, v, 0, m));
        all.add(new Call(34, "frost", -2, 1, m));
        all.add(new Call(46, "plan", -2, 1, some));
        all.add(new Call(47, "planned", -2, 1, some, 0, some));
        all.add(new Call(48, "plans", -2, 1, some));
        for (Object[] each : new Object[][] {{49, "colds"}, {50, "low"}, {51, "high"}, {52, "ask"}, {53, "leaves"}}) {
            all.add(new Call((Integer) each[0], (String) each[1], -2, 0, 1, 0, v));
        }
        all.add(new Call(55, "by", -2, 0, 3));
        all.add(new Call(57, "worth", -2, 0, (1 << state.villagers) - 1));
        all.add(new Call(58, "share", -1_000_000, 0, v, 0, 1));
        if (state.villagers > 1) {
            all.add(new Call(59, "rests", -2, 0, v, 0, v));
            all.add(new Call(60, "wins", -10_000, 0, v, 0, v, 0, 1, 0, 1));
        }
        all.add(new Call(61, "chance", -2, 0, v, 1, chanced, 0, 1));
        all.add(new Call(62, "mean", -2, 1, chanced, 0, 1));
        all.add(new Call(63, "gives", -2, 0, v, 0, m - 1));
        all.add(new Call(64, "sings", -2, 0, v, 0, m));
        all.add(new Call(67, "drawn", -2, 0, SEEDS, 0, 1));
        all.add(new Call(68, "luck", -2, 0, SEEDS, 1, 20, 0, v));
        all.add(new Call(69, "rate", -2, 0, v, 0, 99));
        all.add(new Call(70, "count", -1, 0, 11));
        all.add(new Call(71, "image", -2, 0, 2));
        all.add(new Call(72, "back", -2, 0, 2));
        return all;
    }

    private static void ofVillagers(List<Call> all, int last, Object... numbersAndNames) {
        for (int i = 0; i < numbersAndNames.length; i += 2) {
            all.add(new Call((Integer) numbersAndNames[i], (String) numbersAndNames[i + 1], -2, 0, last));
        }
    }

    // ---- within and beyond ----

    private static boolean isWithin(Call call, long[] args) {
        for (int i = 0; i < args.length; i++) {
            if (args[i] < call.bounds[2 * i] || args[i] > call.bounds[2 * i + 1]) {
                return false;
            }
        }
        if (call.name.equals("planned")) {
            return args[1] <= args[0];
        }
        boolean two = call.name.equals("rests") || call.name.equals("wins");
        return !two || args[0] != args[1];
    }

    /** All rows of arguments that are each at a bound, or one beyond it, or as far off as an int can be. */
    private static List<long[]> corners(Call call) {
        List<long[]> rows = new ArrayList<>();
        rows.add(new long[0]);
        for (int i = 0; i < call.bounds.length; i += 2) {
            long least = call.bounds[i];
            long greatest = call.bounds[i + 1];
            long[] values = {least, greatest, least - 1, greatest + 1, Integer.MIN_VALUE, Integer.MAX_VALUE};
            int many = call.bounds.length > 6 ? 4 : values.length;
            List<long[]> longer = new ArrayList<>();
            for (long[] row : rows) {
                for (int k = 0; k < many; k++) {
                    long[] next = Arrays.copyOf(row, row.length + 1);
                    next[row.length] = values[k];
                    longer.add(next);
                }
            }
            rows = longer;
        }
        return rows;
    }

    private static void within(State state, Call call) {
        for (long[] args : corners(call)) {
            if (isWithin(call, args)) {
                WaistcoatGreen x = state.script.on(new WaistcoatGreen());
                Model model = state.script.on(new Model());
                String told = call.name + Arrays.toString(args) + " on " + state.name;
                long got = Script.call(x, call.name, args);
                Check.due(call.promise, told, got, Script.call(model, call.name, args));
                Check.due(call.promise, told + " is not refused", got == call.refusal ? 1 : 0, 0);
                same(call.promise, told, x, model);
            }
        }
    }

    private static void beyond(State state, Call call) {
        WaistcoatGreen x = state.script.on(new WaistcoatGreen());
        int refused = 0;
        for (long[] args : corners(call)) {
            if (!isWithin(call, args)) {
                refused++;
                Check.due(call.promise, call.name + Arrays.toString(args) + " on " + state.name,
                        Script.call(x, call.name, args), call.refusal);
            }
        }
        Check.due(call.promise, call.name + " was refused", refused > 0 ? 1 : 0, 1);
        same(call.promise, "refused " + call.name + " on " + state.name, x, state.script.on(new WaistcoatGreen()));
    }

    /** Two objects that have come to the same state answer all that follows alike. */
    private static void same(int promise, String what, Object x, Object twin) {
        Check.due(promise, "behind " + what + ": all as it was", answers(x), answers(twin));
    }

    private static void questionsLeaveAll(State state) {
        WaistcoatGreen x = state.script.on(new WaistcoatGreen());
        String[] ofNothing = {"cover", "covers", "pump", "right", "stops", "round", "sum", "worst", "blue", "jumps", "longest",
            "fair", "liars", "start", "join", "law"};
        int[] promises = {10, 11, 21, 22, 23, 24, 26, 27, 29, 35, 36, 37, 43, 44, 45, 56};
        Model model = state.script.on(new Model());
        for (int i = 0; i < ofNothing.length; i++) {
            Check.due(promises[i], ofNothing[i] + "() on " + state.name, Script.call(x, ofNothing[i]),
                    Script.call(model, ofNothing[i]));
            same(promises[i], ofNothing[i] + "() on " + state.name, asked(state, ofNothing[i]),
                    state.script.on(new WaistcoatGreen()));
        }
    }

    /** No question's answer depends on which one was asked ahead of it. */
    private static void oneBehindAnother(State state) {
        List<Call> questions = new ArrayList<>();
        for (Call call : calls(state)) {
            boolean acts = call.promise == 3 || call.promise == 63 || call.promise == 64 || call.promise > 68;
            if (call.promise > 27 && !acts) {
                questions.add(call);
            }
        }
        questions.add(new Call(26, "sum", -2));
        questions.add(new Call(43, "liars", -2));
        questions.add(new Call(44, "start", -2));
        questions.add(new Call(45, "join", -2));
        questions.add(new Call(56, "law", -2));
        questions.add(new Call(54, "laws", -2, 0, 1));
        Model model = state.script.on(new Model());
        List<long[]> arguments = new ArrayList<>();
        List<Long> wants = new ArrayList<>();
        for (Call call : questions) {
            long[] greatest = new long[call.bounds.length / 2];
            for (int i = 0; i < greatest.length; i++) {
                greatest[i] = call.bounds[2 * i + 1];
            }
            boolean two = call.name.equals("rests") || call.name.equals("wins");
            if (two) {
                greatest[0] = 0;
            }
            arguments.add(greatest);
            wants.add(Script.call(model, call.name, greatest));
        }
        for (int a = 0; a < questions.size(); a++) {
            WaistcoatGreen x = state.script.on(new WaistcoatGreen());
            for (int b = 0; b < questions.size(); b++) {
                Script.call(x, questions.get(a).name, arguments.get(a));
                Check.due(questions.get(b).promise, questions.get(b).name + " behind " + questions.get(a).name + " on "
                        + state.name, Script.call(x, questions.get(b).name, arguments.get(b)), wants.get(b));
            }
        }
    }

    private static WaistcoatGreen asked(State state, String name) {
        WaistcoatGreen x = state.script.on(new WaistcoatGreen());
        Script.call(x, name);
        return x;
    }

    // ---- what can be asked of a state ----

    private static long[] answers(Object x) {
        List<Long> all = new ArrayList<>();
        ask(all, x, "fault", 0);
        ask(all, x, "fault", 1);
        ask(all, x, "count", 10);
        ask(all, x, "count", 11);
        green(all, x);
        slots(all, x);
        ask(all, x, "undo");
        green(all, x);
        ask(all, x, "green");
        ask(all, x, "fault", 0);
        ask(all, x, "fault", 1);
        for (int k = 0; k < 3; k++) {
            ask(all, x, "back", k);
            green(all, x);
        }
        return all.stream().mapToLong(Long::longValue).toArray();
    }

    private static void ask(List<Long> all, Object x, String name, long... args) {
        all.add(Script.call(x, name, args));
    }

    private static void green(List<Long> all, Object x) {
        for (int what = 0; what <= 9; what++) {
            ask(all, x, "count", what);
        }
        for (int m = 0; m <= 14; m += 2) {
            ask(all, x, "has", m);
            ask(all, x, "passes", m);
            ask(all, x, "all", m);
        }
        for (int v = 0; v < 7; v++) {
            ask(all, x, "villager", v, 0);
            ask(all, x, "villager", v, 1);
            ask(all, x, "hands", v);
            ask(all, x, "suffers", v);
        }
    }

    /** How long each row is, of which width, and what its first numbers are, as far as a law can tell them. */
    private static void slots(List<Long> all, Object x) {
        for (int slot = 0; slot < 4; slot++) {
            ask(all, x, "laws", slot);
            ask(all, x, "colds", slot, 0);
            for (int n = 1; n <= 8; n++) {
                ask(all, x, "paste", slot, 0, slot, 0, n);
            }
        }
        for (int slot = 0; slot < 3; slot++) {
            for (int width = 0; width <= 3; width++) {
                ask(all, x, "row", 3, width, 2);
                for (int i = 0; i < 6; i++) {
                    ask(all, x, "write", 3, 0, 0);
                    ask(all, x, "paste", slot, i, 3, 1, 1);
                    ask(all, x, "laws", 3);
                    ask(all, x, "write", 3, 1, -1);
                    ask(all, x, "paste", slot, i, 3, 0, 1);
                    ask(all, x, "laws", 3);
                }
            }
        }
    }

    // ---- refusals that are not of one argument's bounds ----

    private static void refusedLater() {
        Script thirty = kept(Texts.FULL, 0);
        for (int i = 0; i < 30; i++) {
            thirty.then("sings", i % 7, i % 15);
        }
        thirty.then("end", 0);
        for (int i = 0; i < 35; i++) {
            thirty.then("feed", 0x67726565, 0x6e206d6f, 0x726e696e, 0x67732031, 0x206c6177);
        }
        thirty.then("green");
        refused(2, thirty, -1, "feed", 0, 0, 0, 0, 0);
        refused(3, thirty, -1, "end", 701);
        refused(4, thirty, -4, "green");
        refused(63, thirty, -5, "gives", 0, 0);
        refused(64, thirty, -5, "sings", 0, 0);
        refused(69, thirty, -5, "rate", 0, 0);
        Script none = new Script().text(Texts.FULL).then("green").row(1, 1, 1, 6, 2, 6).row(2, 0, 1, 6);
        refused(49, none, -6, "colds", 0, 0);
        refused(50, none, -6, "low", 0, 0);
        refused(51, none, -6, "high", 3, 6);
        refused(52, none, -6, "ask", 3, 0);
        refused(53, none, -6, "leaves", 3, 0);
        refused(54, none, -6, "laws", 3);
        refused(54, none, -2, "laws", 4);
        refused(65, none, -5, "undo");
        refused(72, none, -6, "back", 1);
        refused(73, none, -3, "row", 1, 0, -1);
        refused(73, none, -2, "row", 1, 0, 61);
        refused(73, none, -2, "row", 1, 4, 1);
        refused(73, none, -2, "row", 4, 1, 1);
        refused(73, none, -3, "row", 3, 1, Integer.MIN_VALUE);
        refused(74, none, -2, "write", 4, 0, 1);
        refused(74, none, -6, "write", 0, 0, 1);
        refused(74, none, -7, "write", 1, 4, 1);
        refused(74, none, -7, "write", 1, -1, 1);
        refused(75, none, -2, "paste", 1, 0, 4, 0, 1);
        refused(75, none, -6, "paste", 1, 0, 3, 0, 1);
        refused(75, none, -8, "paste", 1, 0, 2, 0, 1);
        refused(75, none, -7, "paste", 1, 0, 1, 2, 3);
        refused(75, none, -7, "paste", 1, 2, 1, 0, 3);
        refused(5, none, -1, "fault", 2);
    }

    private static void refused(int promise, Script script, long refusal, String name, long... args) {
        WaistcoatGreen x = script.on(new WaistcoatGreen());
        String told = name + Arrays.toString(args);
        Check.due(promise, told, Script.call(x, name, args), refusal);
        same(promise, told, x, script.on(new WaistcoatGreen()));
    }

    /** Without a green no call that asks of one finds any, whatever its arguments. */
    private static void withoutGreen() {
        Script script = new Script().row(0, 0).row(1, 0, 1, 0);
        List<Call> all = calls(new State("none", script, 7, 14, 0));
        for (Call call : all) {
            boolean asksOfGreen = call.promise > 5 && call.promise < 70;
            if (!asksOfGreen) {
                continue;
            }
            WaistcoatGreen x = script.on(new WaistcoatGreen());
            for (long[] args : corners(call)) {
                Check.due(call.promise, call.name + Arrays.toString(args) + " without a green",
                        Script.call(x, call.name, args), call.refusal);
            }
            same(call.promise, call.name + " without a green", x, script.on(new WaistcoatGreen()));
        }
        String[] ofNothing = {"cover", "covers", "pump", "right", "stops", "round", "sum", "worst", "blue", "jumps", "longest",
            "fair", "liars", "start", "join", "law", "undo", "anew"};
        int[] promises = {10, 11, 21, 22, 23, 24, 26, 27, 29, 35, 36, 37, 43, 44, 45, 56, 65, 66};
        for (int i = 0; i < ofNothing.length; i++) {
            refused(promises[i], script, -2, ofNothing[i]);
        }
        refused(54, script, -2, "laws", 0);
        refused(54, script, -2, "laws", 2);
    }
}

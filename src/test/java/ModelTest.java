import java.lang.reflect.Method;
import java.util.ArrayList;
import java.util.Arrays;
import java.util.Comparator;
import java.util.List;
import java.util.Random;

/** Runs of calls by chance, of a fixed seed, on the class and on the slow model: they answer alike. */
public final class ModelTest {
    private static final int RUNS = Integer.getInteger("runs", 250);
    private static final int CALLS = 120;
    private final Random random;
    private final WaistcoatGreen x = new WaistcoatGreen();
    private final Model model = new Model();
    private final List<Method> calls;
    private final List<String> done = new ArrayList<>();

    private ModelTest(long seed, List<Method> calls) {
        this.random = new Random(seed);
        this.calls = calls;
    }

    public static void main(String[] args) throws Exception {
        List<Method> calls = new ArrayList<>();
        for (Method m : WaistcoatGreen.class.getDeclaredMethods()) {
            if (java.lang.reflect.Modifier.isPublic(m.getModifiers()) && !m.getName().equals("feed")) {
                calls.add(m);
            }
        }
        calls.sort(Comparator.comparing(Method::getName));
        Check.due("calls of the face but feed", calls.size(), 73);
        for (long seed = 1; seed <= RUNS; seed++) {
            if (!new ModelTest(seed, calls).run()) {
                break;
            }
        }
        Check.finish("ModelTest");
    }

    private int upTo(int n) {
        return random.nextInt(n + 1);
    }

    private boolean run() throws Exception {
        boolean good = tell(text());
        for (int i = 0; i < CALLS && good; i++) {
            int what = upTo(99);
            if (what == 0) {
                good = tell(text());
            } else if (what == 1) {
                good = tell(spoilt(text()));
            } else if (what < 8) {
                good = seen();
            } else if (what < 20) {
                good = act();
            } else {
                good = call(calls.get(upTo(calls.size() - 1)));
            }
        }
        return good;
    }

    private boolean act() throws Exception {
        String[] names = {"gives", "gives", "gives", "sings", "sings", "sings", "undo", "rate", "image", "back"};
        return named(names[upTo(names.length - 1)]);
    }

    private boolean named(String name) throws Exception {
        for (Method m : calls) {
            if (m.getName().equals(name)) {
                return call(m);
            }
        }
        throw new IllegalStateException(name);
    }

    private boolean call(Method m) throws Exception {
        Object[] args = new Object[m.getParameterCount()];
        for (int i = 0; i < args.length; i++) {
            int v = argument(m.getName(), i);
            args[i] = m.getParameterTypes()[i] == long.class ? (Object) (long) v : (Object) v;
        }
        return compare(m, args);
    }

    private boolean compare(Method m, Object[] args) throws Exception {
        done.add(m.getName() + Arrays.toString(args));
        long got = ((Number) m.invoke(x, args)).longValue();
        long want = ((Number) Model.class.getMethod(m.getName(), m.getParameterTypes()).invoke(model, args)).longValue();
        Check.due(m.getName() + Arrays.toString(args), got, want);
        if (got != want) {
            System.out.println("behind " + done);
        }
        return got == want;
    }

    private int argument(String name, int i) {
        if (upTo(60) == 0) {
            int[] wild = {Integer.MIN_VALUE, Integer.MAX_VALUE, -1, -2, 7, 8, 15, 61, 100, 127, 128, 700, 2000000001};
            return wild[upTo(wild.length - 1)];
        }
        switch (name) {
            case "drawn":
                return i == 0 ? random.nextInt(2000000000) : upTo(1);
            case "luck":
                return i == 0 ? random.nextInt(2000000000) : i == 1 ? 1 + upTo(19) : upTo(6);
            case "worth":
                return upTo(127);
            case "freezes":
            case "rate":
                return i == 0 ? upTo(6) : upTo(99);
            case "wins":
                return i < 2 ? upTo(6) : upTo(1);
            case "colds":
            case "low":
            case "high":
            case "ask":
            case "leaves":
                return i == 0 ? upTo(3) : upTo(5);
            case "count":
                return upTo(12);
            case "end":
                return upTo(30);
            case "chance":
                return i == 0 ? upTo(6) : i == 1 ? 1 + upTo(7) : upTo(1);
            case "mean":
                return i == 0 ? 1 + upTo(7) : upTo(1);
            case "plan":
            case "planned":
            case "plans":
                return i == 0 ? 1 + upTo(3) : upTo(4);
            case "row":
                return i == 2 ? upTo(8) - 1 : upTo(3);
            case "paste":
                return upTo(4);
            default:
                return i == 0 ? upTo(6) : upTo(9);
        }
    }

    /** A row of what was seen on the green, or nearly so. */
    private boolean seen() throws Exception {
        int slot = upTo(3);
        int pairs = upTo(2);
        Class<?> n = int.class;
        boolean good = compare(WaistcoatGreen.class.getMethod("row", n, n, n), new Object[] {slot, upTo(3), 2 * pairs});
        Method write = WaistcoatGreen.class.getMethod("write", n, n, long.class);
        for (int i = 0; i < pairs && good; i++) {
            int morning = upTo(Math.max(0, x.count(0)));
            long who = upTo(5) == 0 ? upTo(7) - 1 : x.has(morning);
            good = compare(write, new Object[] {slot, 2 * i, (long) morning})
                    && compare(write, new Object[] {slot, 2 * i + 1, who});
        }
        String[] names = {"colds", "low", "high", "ask", "leaves"};
        for (String name : names) {
            Method m = WaistcoatGreen.class.getMethod(name, n, n);
            good = good && compare(m, new Object[] {slot, upTo(Math.max(0, x.count(5) - 1))});
        }
        return good && compare(WaistcoatGreen.class.getMethod("laws", n), new Object[] {slot});
    }

    private boolean tell(String text) throws Exception {
        byte[] bytes = Check.bytes(text);
        Class<?> n = int.class;
        Method end = WaistcoatGreen.class.getMethod("end", n);
        boolean good = compare(end, new Object[] {0});
        for (int i = 0; i < bytes.length; i += 20) {
            Object[] args = new Object[5];
            for (int k = 0; k < 5; k++) {
                args[k] = Check.word(bytes, i + 4 * k);
            }
            good = good && compare(WaistcoatGreen.class.getMethod("feed", n, n, n, n, n), args);
        }
        good = good && compare(end, new Object[] {bytes.length});
        done.add(text);
        return good && compare(WaistcoatGreen.class.getMethod("green"), new Object[0])
                && compare(WaistcoatGreen.class.getMethod("fault", n), new Object[] {0})
                && compare(WaistcoatGreen.class.getMethod("fault", n), new Object[] {1});
    }

    private String text() {
        StringBuilder t = new StringBuilder();
        t.append("green mornings ").append(1 + upTo(13)).append(" law ").append(upTo(3)).append(" odds ")
                .append(upTo(10)).append(" warm ").append(upTo(upTo(1) * 30 + 10)).append(" chill ")
                .append(upTo(upTo(1) * 15 + 5)).append(";");
        int people = random.nextInt(20) == 0 ? 0 : 1 + upTo(upTo(3) == 0 ? 6 : 5);
        int wears = upTo(8);
        int shyest = upTo(2) == 0 ? 99 : 60;
        int coldest = upTo(2) == 0 ? 20 : 60;
        for (int v = 0; v < people; v++) {
            t.append("villager cold ").append(upTo(coldest)).append(" shy ").append(upTo(shyest));
            t.append(v == wears ? " wears;\n" : ";");
        }
        for (int h = people < 2 ? 0 : upTo(12); h > 0; h--) {
            int a = upTo(people - 1);
            int b = (a + 1 + upTo(people - 2)) % people;
            t.append("hand ").append(a).append(' ').append(b).append(';');
        }
        for (int f = upTo(upTo(4)); f > 0; f--) {
            t.append("frost ").append(1 + upTo(39)).append(" at ").append(1 + upTo(13)).append(';');
        }
        return t.toString();
    }

    private String spoilt(String text) {
        StringBuilder t = new StringBuilder(text);
        String[] bits = {";", " ", "wears", " green ", "9", "99999999999", "villager cold 1 shy 1;", "hand 0 1;",
            "frost 1 at 1;", "A", "\t", "x", "\u00e9", " 0 ", "-"};
        for (int i = upTo(2); i >= 0; i--) {
            int at = upTo(t.length());
            if (upTo(1) == 0) {
                t.insert(at, bits[upTo(bits.length - 1)]);
            } else {
                t.delete(at, Math.min(t.length(), at + 1 + upTo(6)));
            }
        }
        t.setLength(Math.min(t.length(), 680));
        return t.toString();
    }
}

import java.lang.management.ManagementFactory;
import java.lang.reflect.Method;
import java.lang.reflect.Modifier;
import java.util.ArrayList;
import java.util.Arrays;
import java.util.Comparator;
import java.util.List;
import java.util.Random;

/** No call throws, whatever its arguments, in whatever state; and the dearest calls make no objects. */
public final class RoomTest {
    private static final int[] EDGES = {Integer.MIN_VALUE, Integer.MIN_VALUE + 1, -1000001, -700, -8, -3, -2, -1, 0, 1, 2, 3,
        4, 5, 6, 7, 8, 9, 10, 13, 14, 15, 20, 21, 30, 59, 60, 61, 98, 99, 100, 127, 128, 255, 256, 680, 700, 701, 65535,
        2000000000, 2000000001, Integer.MAX_VALUE - 1, Integer.MAX_VALUE};
    private static final String DEAR = "green mornings 14 law 2 odds 5 warm 13 chill 3;"
            + "villager cold 10 shy 20; villager cold 30 shy 35; villager cold 25 shy 40; villager cold 5 shy 0;"
            + "villager cold 22 shy 30; villager cold 7 shy 9; villager cold 50 shy 60;"
            + "hand 0 1; hand 1 2; hand 2 3; hand 3 4; hand 4 5; hand 5 6; hand 6 0; hand 0 3; hand 1 4; hand 2 5; hand 3 6;"
            + "hand 4 0; frost 7 at 2; frost 3 at 5;";

    private RoomTest() {
    }

    public static void main(String[] args) throws Exception {
        List<Method> calls = new ArrayList<>();
        for (Method m : WaistcoatGreen.class.getDeclaredMethods()) {
            if (Modifier.isPublic(m.getModifiers())) {
                calls.add(m);
            }
        }
        calls.sort(Comparator.comparing(Method::getName));
        Random random = new Random(7);
        for (int run = 0; run < 150; run++) {
            wild(calls, random);
        }
        nothingMade();
        Check.finish("RoomTest");
    }

    private static void wild(List<Method> calls, Random random) {
        WaistcoatGreen x = random.nextInt(4) == 0 ? new WaistcoatGreen() : Check.told(DEAR);
        for (int i = 0; i < 450; i++) {
            Method m = calls.get(random.nextInt(calls.size()));
            boolean endsGreen = m.getName().equals("green") || m.getName().equals("back");
            if (endsGreen && random.nextInt(6) != 0) {
                continue;
            }
            Object[] args = new Object[m.getParameterCount()];
            for (int k = 0; k < args.length; k++) {
                int v = random.nextBoolean() ? random.nextInt(8) : EDGES[random.nextInt(EDGES.length)];
                args[k] = m.getParameterTypes()[k] == long.class ? (Object) (long) v : (Object) v;
            }
            answers(m, x, args);
        }
    }

    private static void answers(Method m, WaistcoatGreen x, Object[] args) {
        int threw = 0;
        try {
            m.invoke(x, args);
        } catch (ReflectiveOperationException e) {
            threw = 1;
            System.out.println(e.getCause());
        }
        Check.due(m.getName() + Arrays.toString(args) + " threw", threw, 0);
    }

    private static void nothingMade() {
        com.sun.management.ThreadMXBean threads = (com.sun.management.ThreadMXBean) ManagementFactory.getThreadMXBean();
        WaistcoatGreen x = Check.told(DEAR);
        dear(x);
        long id = Thread.currentThread().getId();
        long nothing = threads.getThreadAllocatedBytes(id);
        nothing = threads.getThreadAllocatedBytes(id) - nothing;
        long before = threads.getThreadAllocatedBytes(id);
        long sum = 0;
        for (int i = 0; i < 20; i++) {
            sum += dear(x);
        }
        long made = threads.getThreadAllocatedBytes(id) - before - nothing;
        Check.due("bytes made by the dearest calls (" + sum % 2 + " aside), some for the clockwork", made < 4096 ? 0 : made, 0);
    }

    private static long dear(WaistcoatGreen x) {
        long sum = x.liars() + x.join() + x.start() + x.plan(4) + x.planned(4, 4) + x.plans(4) + x.share(0, 0)
                + x.rests(0, 1) + x.chance(0, 8, 0) + x.mean(8, 0) + x.luck(5, 20, 3) + x.law() + x.covers();
        sum += x.row(0, 3, 60) + x.row(0, 3, 0) + x.ask(0, 1) + x.leaves(0, 1) + x.laws(0) + x.gives(1, 1) + x.sings(2, 2);
        sum += x.image(0) + x.back(0) + x.undo() + x.anew() + x.rate(0, 20) + x.feed(0, 0, 0, 0, 0) + x.green() + x.end(0);
        return sum;
    }
}

import java.lang.management.ManagementFactory;
import java.lang.reflect.InvocationTargetException;
import java.lang.reflect.Method;
import java.lang.reflect.Modifier;
import java.util.ArrayList;
import java.util.Comparator;
import java.util.List;
import java.util.Random;

/** No call throws, whatever it is given; questions change nothing; no call makes an object. */
public final class WildTest {
    private static final int[] EDGES = {
        Integer.MIN_VALUE, Integer.MIN_VALUE + 1, -1000, -33, -32, -3, -2, -1, 0, 1, 2, 3, 4, 6, 7, 8, 9, 19, 20, 31,
        32, 40, 41, 59, 60, 61, 98, 99, 100, 127, 128, 300, 301, 9999, 10000, 1 << 20, Integer.MAX_VALUE};

    public static void main(String[] args) throws ReflectiveOperationException {
        List<Method> face = new ArrayList<>();
        for (Method m : ShutDays.class.getDeclaredMethods()) {
            if (Modifier.isPublic(m.getModifiers())) {
                face.add(m);
            }
        }
        face.sort(Comparator.comparing(Method::getName));
        for (int seed = 0; seed < 1500; seed++) {
            wildRun(new Random(seed), face);
        }
        for (int seed = 0; seed < 100; seed++) {
            questionsChangeNothing(new Random(seed), face);
        }
        nothingIsMade();
        Due.finish();
    }

    private static Object[] wild(Random random, Method m) {
        Object[] with = new Object[m.getParameterCount()];
        for (int i = 0; i < with.length; i++) {
            if (m.getParameterTypes()[i] == boolean.class) {
                with[i] = random.nextBoolean();
            } else if (random.nextInt(10) == 0) {
                with[i] = random.nextInt();
            } else {
                with[i] = random.nextBoolean() ? random.nextInt(8) : EDGES[random.nextInt(EDGES.length)];
            }
        }
        return with;
    }

    private static Object called(ShutDays x, Method m, Object[] with) throws IllegalAccessException {
        try {
            return m.invoke(x, with);
        } catch (InvocationTargetException e) {
            Due.due(m.getName() + " threw " + e.getCause(), 1, 0);
            return null;
        }
    }

    private static void wildRun(Random random, List<Method> face) throws IllegalAccessException {
        ShutDays x = new ShutDays();
        for (int i = 0; i < 450; i++) {
            Method m = face.get(random.nextInt(face.size()));
            called(x, m, wild(random, m));
            if (random.nextInt(12) == 0) {
                x.house(random.nextInt(20), -1, random.nextInt(20), random.nextInt(10000), random.nextInt(100));
            }
            if (random.nextInt(40) == 0) {
                Due.told(x, new ScriptMaker(random).text());
            }
        }
        Due.due("a run has ended", x.about(0) >= 0, true);
    }

    private static final List<String> DEEDS = List.of("house", "feed", "end", "text", "by", "knock", "marry", "hat",
            "forget", "day", "played", "years", "undo", "seen", "gossip", "image", "back");

    private static void questionsChangeNothing(Random random, List<Method> face) throws IllegalAccessException {
        ShutDays x = new ShutDays();
        for (int i = 0; i < 7; i++) {
            x.house(random.nextInt(6), 6 + random.nextInt(6), -1, random.nextInt(100), random.nextInt(100));
        }
        for (int i = 0; i < 30; i++) {
            x.knock(random.nextInt(7));
            x.day(1);
            x.hat(random.nextInt(7));
        }
        x.marry(0, 1);
        Due.told(x, "earns purse; loses date; lets friends < 90;");
        x.by(0);
        long was = summary(x);
        for (int i = 0; i < 200; i++) {
            Method m = face.get(random.nextInt(face.size()));
            if (!DEEDS.contains(m.getName())) {
                called(x, m, wild(random, m));
            }
        }
        Due.due("nothing has changed", summary(x), was);
    }

    private static long summary(ShutDays x) {
        long sum = 0;
        for (int h = 0; h < 7; h++) {
            for (int what = 0; what <= 8; what++) {
                sum = sum * 31 + x.of(h, what);
            }
        }
        for (int i = 0; i < 7; i++) {
            sum = (sum * 31 + x.is(i)) * 31 + x.about(i);
        }
        for (int i = -1; i < 40; i++) {
            sum = ((sum * 31 + x.book(i, 0)) * 31 + x.book(i, 1)) * 31 + x.book(i, 2);
        }
        return sum * 31 + x.fault(0);
    }

    /** All rows are made in the constructor: what a thread has made before and behind is the same. */
    private static void nothingIsMade() {
        if (!(ManagementFactory.getThreadMXBean() instanceof com.sun.management.ThreadMXBean bean)) {
            return;
        }
        long thread = Thread.currentThread().getId();
        ShutDays x = new ShutDays();
        manyCalls(x);
        long before = bean.getThreadAllocatedBytes(thread);
        long after = bean.getThreadAllocatedBytes(thread);
        long measuring = after - before;
        before = bean.getThreadAllocatedBytes(thread);
        manyCalls(x);
        after = bean.getThreadAllocatedBytes(thread);
        Due.due("bytes made", after - before - measuring, 0);
    }

    private static void manyCalls(ShutDays x) {
        x.back();
        for (int i = 0; i < 6; i++) {
            x.house(i, i + 1, i + 5, 100, 50);
        }
        x.end(0);
        x.feed(0x6561726e, 0x7320353b, 0x20202020, 0x20202020, 0x20202020);
        x.text();
        x.by(0);
        x.day(60);
        x.years(5, 40);
        x.knock(2);
        x.hat(2);
        x.marry(1, 2);
        x.undo();
        x.played(0);
        x.foretold(60, 1);
        x.whose(60);
        x.poorest(60);
        x.richest(true);
        x.sets(1, 3, true);
        x.odds(1, 3, 4, true);
        x.nextKnock(1, 3);
        x.thieves(3, 3, true);
        x.night(3);
        x.appointments(31, 2);
        x.rounds();
        x.weddings(2);
        x.gossip(0, 1);
        x.knows(1, 0);
        x.never(0);
        x.leap(0, 1);
    }
}

import java.lang.management.ManagementFactory;
import java.lang.reflect.Method;
import java.lang.reflect.Modifier;
import java.util.ArrayList;
import java.util.Arrays;
import java.util.Comparator;
import java.util.List;
import java.util.Random;

/**
 * Calls with any numbers in rooms of many kinds: none throws, what is refused changes nothing that
 * can be asked (but the tape and the fault by text), what only asks changes nothing, and no call
 * makes objects.
 */
public final class AnyCallTest {
    private static final List<String> TELLING = List.of("day", "feed", "end", "text", "card", "anew",
            "file", "out", "tell", "bar", "hold", "wrong", "sheet", "lay", "read");
    private static final int[] ODD = {0, 1, -1, 2, 3, 4, 5, 6, 7, 9, 10, 11, 12, 20, 23, 24, 26, 27, 33,
        34, 36, 37, 50, 73, 74, 95, 96, 97, 100, 101, 240, 333, 667, 999, 1000, 1023, 1024, 9999, 10000,
        1 << 27, 1 << 30, Integer.MAX_VALUE, Integer.MAX_VALUE - 50, Integer.MIN_VALUE,
        Integer.MIN_VALUE + 10};

    private AnyCallTest() {
    }

    public static void main(String[] args) throws Exception {
        for (int seed = 0; seed < 60; seed++) {
            anyCalls(new Random(seed));
        }
        refusedChangesNothing();
        noObjects();
        Check.close();
    }

    private static List<Method> calls() {
        List<Method> calls = new ArrayList<>();
        for (Method method : ElevenMeasures.class.getDeclaredMethods()) {
            if (Modifier.isPublic(method.getModifiers())) {
                calls.add(method);
            }
        }
        calls.sort(Comparator.comparing(Method::getName));
        return calls;
    }

    private static Object[] odd(Method method, Random random) {
        Class<?>[] kinds = method.getParameterTypes();
        Object[] values = new Object[kinds.length];
        for (int i = 0; i < kinds.length; i++) {
            int v = ODD[random.nextInt(random.nextBoolean() ? 16 : ODD.length)];
            values[i] = kinds[i] == boolean.class ? (Object) random.nextBoolean()
                    : kinds[i] == long.class ? (Object) random.nextLong() : (Object) v;
        }
        return values;
    }

    private static long call(ElevenMeasures x, Method method, Object[] values) throws Exception {
        return ((Number) method.invoke(x, values)).longValue();
    }

    /** More calls than are promised, for none of them may throw either. */
    private static void anyCalls(Random random) throws Exception {
        ElevenMeasures x = new ElevenMeasures();
        List<Method> calls = calls();
        for (int i = 0; i < 4000; i++) {
            Method method = calls.get(random.nextInt(calls.size()));
            if (method.getName().equals("day") && random.nextInt(20) > 0) {
                continue;
            }
            call(x, method, odd(method, random));
        }
        Check.holds("any calls", true);
    }

    private static void refusedChangesNothing() throws Exception {
        List<Method> calls = calls();
        int refused = 0;
        for (int seed = 0; seed < 20; seed++) {
            Random random = new Random(seed);
            ElevenMeasures x = fullRoom(seed);
            for (int i = 0; i < 200; i++) {
                Method method = calls.get(random.nextInt(calls.size()));
                Object[] values = odd(method, random);
                int[] before = everything(x);
                long answer = call(x, method, values);
                boolean isTold = TELLING.contains(method.getName());
                if (isTold && answer >= 0) {
                    continue;
                }
                int[] behind = everything(x);
                if (method.getName().equals("text")) {
                    // the tape is empty, and the fault is another
                    before[0] = behind[0];
                    before[1] = behind[1];
                }
                refused += isTold ? 1 : 0;
                String name = method.getName() + Arrays.toString(values) + " -> " + answer;
                Check.holds(name + " changes nothing", Arrays.equals(before, behind));
            }
        }
        Check.holds("many were refused", refused > 500);
    }

    private static ElevenMeasures fullRoom(int seed) {
        ElevenMeasures x = Check.room("from 3 edge a 50 60;keep 2;spread 1 5;grow a 3;other 1;");
        for (int c = 0; c < 8 + seed; c++) {
            x.card(c % 6, c % 3, 40 + c, c * 40 % 1000, 300, c % 7, c * 37 % 1024);
        }
        x.day(3);
        x.out(2);
        x.bar(0, 1, true);
        x.bar(2, 4, true);
        x.tell(1, 45, 0, 301, 5);
        for (int h = 0; h < seed; h++) {
            x.hold(h % 8);
        }
        x.wrong(0);
        for (int i = 0; i < 2 * seed + 2; i++) {
            x.anew(i % 8, i % 4, 41 + i);
        }
        x.sheet(0, 0, 8);
        x.sheet(1, 2, 96);
        x.lay(1, 3, 1000);
        x.feed(0x6b65657020373b20L);
        return x;
    }

    /** All that can be asked of a room, the tape and the fault first. */
    private static int[] everything(ElevenMeasures x) {
        List<Integer> all = new ArrayList<>();
        all.add(x.count(10));
        all.add(x.fault());
        all.add(x.torn());
        for (int what = 0; what < 10; what++) {
            all.add(x.count(what));
        }
        all.add(x.count(11));
        for (int rule = 0; rule < 20; rule++) {
            for (int day = 0; day < 7; day++) {
                all.add(x.rule(rule, day));
            }
        }
        int cards = x.count(0);
        for (int c = 0; c < cards; c++) {
            for (int what = 0; what < 14; what++) {
                all.add(x.of(c, what));
            }
            for (int m = 0; m < 4; m++) {
                for (int day = 0; day < 6; day++) {
                    all.add(x.known(c, m, day));
                }
            }
            all.add(x.match(50 + c));
            all.add(x.men(10 + c));
            for (int d = 0; d < cards; d++) {
                all.add(x.join(c, d));
            }
        }
        for (int what = 0; what < 3; what++) {
            all.add(x.men(what));
        }
        for (int d = 0; d < 27; d++) {
            all.add((int) x.chance(d, 0));
            all.add((int) x.chance(d, 1));
            all.add(x.drawer(d, 1));
        }
        all.add((int) x.byChance(0));
        for (int h = 0; h < x.count(6); h++) {
            for (int what = 0; what < 6; what++) {
                all.add(x.held(h, what));
            }
        }
        return all.stream().mapToInt(i -> i).toArray();
    }

    private static void noObjects() {
        com.sun.management.ThreadMXBean threads =
                (com.sun.management.ThreadMXBean) ManagementFactory.getThreadMXBean();
        ElevenMeasures x = fullRoom(16);
        long me = Thread.currentThread().getId();
        dearCalls(x);
        long before = threads.getThreadAllocatedBytes(me);
        for (int i = 0; i < 100; i++) {
            dearCalls(x);
        }
        long made = threads.getThreadAllocatedBytes(me) - before;
        // the measuring itself makes a little
        Check.holds("1600 calls made " + made + " bytes", made < 4096);
    }

    private static void dearCalls(ElevenMeasures x) {
        x.even(0, 10, 3);
        x.men(2);
        x.guess(0, 0, 0);
        x.look(0, 2);
        x.match(10);
        x.beside(1, 0, 2);
        x.held(0, 5);
        x.byChance(0);
        x.chance(0, 0);
        x.sheet(2, 1, 96);
        x.lay(2, 5, 7);
        x.read(0, 2, 1, 0, 24);
        x.feed(0x6b65657020373b20L);
        x.text();
        x.known(0, 0, 3);
        x.drawer(3, 2);
    }
}

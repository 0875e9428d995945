import java.lang.management.ManagementFactory;
import java.lang.reflect.Array;
import java.lang.reflect.Field;
import java.lang.reflect.Modifier;
import java.util.ArrayDeque;
import java.util.Deque;
import java.util.IdentityHashMap;
import java.util.Map;
import java.util.Random;

/** No call fails for any arguments in any state, no call makes an object, and an object stays small. */
public final class RoomTest {
    private static final String TEXT = "pack p; face E<V>{none m(V);} class A{} class B:A{} face F<V under A>:E<V>"
        + "{lent none m(V);} face G<V under A>{none m(V);} class X:G<B>{open none m(B); own int o(); static int s();}"
        + " loader 1; class Y:X,F<B>{} abstract class Z:Y{near abstract none z();} class W:Z{open none m(B);}";
    private static final int[] WILD = {Integer.MIN_VALUE, -1000, -14, -8, -1, 24, 119, 120, 121, 1000, 1000000, Integer.MAX_VALUE};
    private static final String[] PIECES = {"class ", "face ", "abstract ", "A", "B", "C", "D", "<", ">", ",", ":", "{", "}", "(",
        ")", ";", "under ", "of ", "own ", "near ", "open ", "static ", "lent ", "int ", "none ", "m", "7", "1", "$", " ", "\n",
        "pack ", "loader ", "class A{}", "face B{}", "class C:A{int m();}", "open int m(A);"};

    public static void main(String[] args) {
        smallObject();
        anyCalls();
        noObjects();
        Bench.end();
    }

    private static void smallObject() {
        Map<Object, Boolean> met = new IdentityHashMap<>();
        Deque<Object> open = new ArrayDeque<>();
        open.add(Bench.court(TEXT));
        int size = 0;
        while (!open.isEmpty()) {
            Object x = open.remove();
            if (met.put(x, true) == null) {
                size += x.getClass().isArray() ? sizeOfArray(x, open) : sizeOfFields(x, open);
            }
        }
        Bench.due("objects of a court are 1100 at most (" + met.size() + ")", met.size() <= 1100 ? 1 : 0, 1);
        Bench.due("fields and elements of a court are 40000 at most (" + size + ")", size <= 40000 ? 1 : 0, 1);
    }

    private static int sizeOfArray(Object array, Deque<Object> open) {
        int length = Array.getLength(array);
        for (int i = 0; i < length && !array.getClass().getComponentType().isPrimitive(); i++) {
            open.add(Array.get(array, i));
        }
        return length;
    }

    private static int sizeOfFields(Object x, Deque<Object> open) {
        int count = 0;
        for (Field field : x.getClass().getDeclaredFields()) {
            if (Modifier.isStatic(field.getModifiers())) {
                continue;
            }
            count++;
            if (!field.getType().isPrimitive()) {
                open.add(valueOf(field, x));
            }
        }
        return count;
    }

    private static Object valueOf(Field field, Object x) {
        try {
            field.setAccessible(true);
            return field.get(x);
        } catch (IllegalAccessException e) {
            throw new IllegalStateException(e);
        }
    }

    private static void anyCalls() {
        Random random = new Random(5);
        long sum = 0;
        for (int run = 0; run < 300; run++) {
            CallCourt x = run % 2 == 0 ? new CallCourt() : Bench.court(TEXT);
            for (int i = 0; i < 512; i++) {
                sum += anyCall(x, random);
            }
        }
        Bench.due("every call came back", sum == Long.MIN_VALUE ? 0 : 1, 1);
    }

    private static int any(Random random) {
        return random.nextInt(4) == 0 ? WILD[random.nextInt(WILD.length)] : random.nextInt(12);
    }

    private static int anyCall(CallCourt x, Random random) {
        int a = any(random);
        int b = any(random);
        int c = any(random);
        int d = any(random);
        int e = any(random);
        switch (random.nextInt(24)) {
            case 0: return x.feed(random.nextInt(), b, c, d, e);
            case 1: return x.trim(a);
            case 2: return x.compile();
            case 3: return x.fault();
            case 4: return x.type(a, b);
            case 5: return x.above(a, b);
            case 6: return x.under(a, b);
            case 7: return x.member(a, b);
            case 8: return x.seen(a, b, c);
            case 9: return x.erased(a, b);
            case 10: return x.overrides(a, b);
            case 11: return x.bridge(a, b, c);
            case 12: return x.same(a, b, random.nextBoolean());
            case 13: return x.lookup(a, b);
            case 14: return x.specific(a, b, c);
            case 15: return x.may(a, b, c, d);
            case 16: return x.hops();
            case 17: return x.conflicts(a);
            case 18: return x.tally(a, b);
            case 19: return x.told(a);
            case 20: return anyText(x, random);
            default: return x.rule(random.nextInt(4), a, b, c, d);
        }
    }

    private static int anyText(CallCourt x, Random random) {
        StringBuilder text = new StringBuilder();
        int count = random.nextInt(60);
        for (int i = 0; i < count; i++) {
            text.append(PIECES[random.nextInt(PIECES.length)]);
        }
        return Bench.compile(x, text.toString());
    }

    private static long allocated() {
        return ((com.sun.management.ThreadMXBean) ManagementFactory.getThreadMXBean()).getCurrentThreadAllocatedBytes();
    }

    private static void noObjects() {
        CallCourt x = Bench.court(TEXT);
        allCalls(x);
        allocated();
        long before = allocated();
        allCalls(x);
        long made = allocated() - before;
        Bench.due("bytes that the calls make are few (" + made + ")", made < 2000 ? 1 : 0, 1);
    }

    private static void allCalls(CallCourt x) {
        for (int t = 0; t < 10; t++) {
            for (int m = 0; m < 8; m++) {
                x.lookup(t, m);
                x.specific(t, m, 0);
                x.seen(t, m, 2);
                x.overrides(t, m);
                x.bridge(t, m, 4);
                for (int caller = 0; caller < 9; caller++) {
                    x.may(caller, t, m, 8);
                    x.rule(caller % 4, caller, t, m, 8);
                }
            }
            x.type(t, 3);
            x.above(t, 0);
            x.conflicts(t);
            x.tally(t, 0);
        }
        for (int i = 0; i < 30; i++) {
            x.feed(0x636C6173, 0x7320417B, 0x6F776E20, 0x696E7420, 0x6D28293B);
            x.feed(0x7D202020, 0x20202020, 0x20202020, 0x20202020, 0x20202020 + i % 2);
            x.compile();
        }
        Bench.compile(x, TEXT);
    }
}

import java.lang.management.ManagementFactory;
import java.lang.reflect.Array;
import java.lang.reflect.Field;
import java.lang.reflect.Modifier;
import java.util.Arrays;
import java.util.IdentityHashMap;
import java.util.Map;

/**
 * The room that an object takes, and that no call makes anything: a bay with all that can be told, and
 * each call on it (with arguments right and wrong), the dear ones too.
 */
public final class BellBayRoom {
    private static final int MOST_OBJECTS = 300;
    private static final int MOST_ELEMENTS = 30000;
    private static final int BYTES_OF_MEASURING = 2000;

    private static int objects = 0;
    private static int elements = 0;

    private static void walk(Object one, Map<Object, Object> seen) throws IllegalAccessException {
        if (one == null || seen.put(one, one) != null) {
            return;
        }
        objects++;
        if (one.getClass().isArray()) {
            elements += Array.getLength(one);
            if (!one.getClass().getComponentType().isPrimitive()) {
                for (Object part : (Object[]) one) {
                    walk(part, seen);
                }
            }
            return;
        }
        for (Field f : one.getClass().getDeclaredFields()) {
            if (!Modifier.isStatic(f.getModifiers())) {
                f.setAccessible(true);
                elements++;
                if (!f.getType().isPrimitive()) {
                    walk(f.get(one), seen);
                }
            }
        }
    }

    private static int[] numbersOf(String text) {
        byte[] bytes = text.getBytes(java.nio.charset.StandardCharsets.ISO_8859_1);
        byte[] padded = Arrays.copyOf(bytes, (bytes.length + 19) / 20 * 20);
        Arrays.fill(padded, bytes.length, padded.length, (byte) 32);
        int[] numbers = new int[padded.length / 4];
        java.nio.ByteBuffer.wrap(padded).asIntBuffer().get(numbers);
        return numbers;
    }

    private static String text() {
        StringBuilder b = new StringBuilder("bay churches 9 seconds 300;");
        for (int i = 0; i < 9; i++) {
            b.append(i % 3 == 0 ? "church eager rests 0;" : i % 3 == 1 ? "church proud rests 2;" : "church late 3 rests 1;");
        }
        for (int i = 0; i < 12; i++) {
            b.append("ear ").append((i + 1) % 9).append(" of ").append(i % 9 == 8 ? 4 : i % 9).append(" takes ")
                .append(1 + i % 4).append(i % 2 == 0 ? " along;" : " against;");
        }
        for (int i = 0; i < 6; i++) {
            b.append("wind at ").append(i * 50).append(" along ").append(i).append(";fog on ").append(i).append(" from 100 to 110;");
            b.append("deaf ").append(i).append(" from 50 to 55;funeral at ").append(i).append(" from 0 to 299;");
        }
        for (int i = 0; i < 4; i++) {
            b.append("starts ").append(i).append(" at ").append(i).append(" hour ").append(1 + i).append(";");
        }
        return b.toString();
    }

    private static int callAll(BellBay x, int v) {
        int sum = x.church(v, v) + x.ear(v, v) + x.takes(v, v) + x.strikes() + x.strike(v, v) + x.lost(v) + x.hour(v, v);
        sum += x.many(v) + x.when(v, v) + x.led(v, v) + x.agree(v) + x.noon(v, v) + x.ship(v, 0, v) + x.quiet();
        sum += x.night(v, v) + x.spare(v, v) + x.needs(v) + x.harm(v) + x.pan(v, v, v) + x.boy(v, v) + x.gain(v);
        sum += x.passes(v, v) + x.wave(v) + x.depth(v) + x.source(v) + x.lap(v) + x.gap(v) + x.waits(v, v) + x.rank(v);
        sum += x.common(v) + x.strayed(v) + x.splits() + x.silence(v) + x.spread(v) + x.without(v) + x.unheard(v) + x.key();
        sum += x.wise() + x.behind(v, 0, v) + x.log(v) + x.soon(v) + x.hush(v) + x.began(v, v, v) + x.first(v, v, v, v);
        sum += x.sure(v, v, v) + x.odd(v) + x.drawn(v, v, v) + x.chance(v, v, v, v, v) + x.bets(v) + x.count(v);
        sum += x.keep(v) + x.row(v, v, 30) + x.write(v, v, v) + x.paste(v, v, v, v, v) + x.muffle(v, 0) + x.cut(v, 0);
        return sum + x.tune(v, 1) + x.shift(v, v) + x.back(v);
    }

    public static void main(String[] args) throws Exception {
        BellBay x = new BellBay();
        walk(x, new IdentityHashMap<>());
        int[] numbers = numbersOf(text());
        int[] tries = {-1, 0, 1, 2, 3, 300, Integer.MIN_VALUE};
        com.sun.management.ThreadMXBean bean = (com.sun.management.ThreadMXBean) ManagementFactory.getThreadMXBean();
        long own = Thread.currentThread().getId();
        bean.getThreadAllocatedBytes(own);
        long before = bean.getThreadAllocatedBytes(own);
        for (int i = 0; i + 4 < numbers.length; i += 5) {
            x.feed(numbers[i], numbers[i + 1], numbers[i + 2], numbers[i + 3], numbers[i + 4]);
        }
        int lines = x.bay();
        int sum = 0;
        for (int v : tries) {
            sum += callAll(x, v);
        }
        long made = bean.getThreadAllocatedBytes(own) - before;
        System.out.println(objects + " objects, " + elements + " fields and elements; " + lines + " lines; " + made
            + " bytes made by calls (sum " + sum + ")");
        if (objects > MOST_OBJECTS || elements > MOST_ELEMENTS || made > BYTES_OF_MEASURING || lines != 50) {
            System.exit(1);
        }
    }
}

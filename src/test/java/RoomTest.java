import java.lang.reflect.Array;
import java.lang.reflect.Field;
import java.lang.reflect.Modifier;
import java.util.ArrayDeque;
import java.util.Deque;
import java.util.IdentityHashMap;
import java.util.Map;
import java.util.Random;

/** How much room an object takes, that calls take none of their own, and that the dearest ones end soon. */
public final class RoomTest {
    private static final int MOST_OBJECTS = 120;
    private static final int MOST_ELEMENTS = 7000;
    private static final long MOST_BYTES_BY_CALLS = 100_000;
    private static final String DEAREST = dearest();

    public static void main(String[] args) throws IllegalAccessException {
        boolean fine = room();
        fine &= calls();
        System.out.println(fine ? "the room is as it should be" : "the room is too large");
        System.exit(fine ? 0 : 1);
    }

    private static boolean room() throws IllegalAccessException {
        GreyHair x = new GreyHair();
        Map<Object, Boolean> met = new IdentityHashMap<>();
        Deque<Object> open = new ArrayDeque<>();
        open.add(x);
        int elements = 0;
        while (!open.isEmpty()) {
            Object o = open.remove();
            if (met.put(o, true) != null) {
                continue;
            }
            if (o.getClass().isArray()) {
                elements += Array.getLength(o);
                continue;
            }
            for (Field f : o.getClass().getDeclaredFields()) {
                if (Modifier.isStatic(f.getModifiers())) {
                    continue;
                }
                elements++;
                f.setAccessible(true);
                if (!f.getType().isPrimitive()) {
                    open.add(f.get(o));
                }
            }
        }
        System.out.println(met.size() + " objects, " + elements + " fields and elements");
        return met.size() <= MOST_OBJECTS && elements <= MOST_ELEMENTS;
    }

    private static String dearest() {
        StringBuilder text = new StringBuilder();
        for (int i = 0; i < 6; i++) {
            text.append("person ").append((char) ('p' + i)).append(" of ").append(i % 2).append(" cares 1");
            text.append(i < 4 ? " news 50 of 5;" : ";");
        }
        for (int i = 0; i < 12; i++) {
            int other = (i / 2 + 1 + i % 2) % 6;
            text.append("knows ").append((char) ('p' + i / 2)).append(' ').append((char) ('p' + other)).append(';');
        }
        text.append("worry care+known").append("+care*known%7".repeat(9)).append("+house;");
        return text.append("grows 1").append("+care*known%7".repeat(9)).append("-99*has;ease 1;").toString();
    }

    private static boolean calls() {
        GreyHair x = new GreyHair();
        Random random = new Random(5);
        int sum = 0;
        for (int i = 0; i < 40; i++) {
            sum += round(x, random);
        }
        com.sun.management.ThreadMXBean bean = (com.sun.management.ThreadMXBean) java.lang.management.ManagementFactory
                .getThreadMXBean();
        long before = bean.getCurrentThreadAllocatedBytes();
        for (int i = 0; i < 40; i++) {
            sum += round(x, random);
        }
        long taken = bean.getCurrentThreadAllocatedBytes() - before;
        System.out.println("calls took " + taken + " bytes (" + sum + ")");
        return taken < MOST_BYTES_BY_CALLS;
    }

    private static int round(GreyHair x, Random random) {
        Due.put(x, DEAREST);
        int sum = x.family();
        int a = random.nextInt(6);
        int b = random.nextInt(6);
        sum += x.day() + x.take(a, 9) + x.ease(b, 3) + x.tell(a, b) + x.forget(b, a) + x.pluck() + x.dye();
        sum += x.will(60) + x.cares(a, 60) + x.next() + x.spare(a, 20, 0) + x.easing(a) + x.hush(0) + x.knows(11, 0);
        sum += x.wed() + x.nights(a, 60) + x.returns(a) + x.rank() + x.words() + x.peace() + x.burden(60) + x.calm();
        sum += x.law(5) + x.odds(a, 0) + x.duel(a, b) + x.path(6) + x.silence(a, 0) + x.alone() + x.heaviest();
        sum += x.seen(3, a, false) + x.later(1) + x.fits(3) + x.sure(0, 3) + x.ask(0, 3) + x.image(0) + x.back(0);
        sum += (x.undo() ? 1 : 0) + (x.redo() ? 1 : 0) + (x.untell(0) ? 1 : 0) + x.lies(0) + x.about(6);
        return sum;
    }
}

import com.sun.management.ThreadMXBean;
import java.lang.management.ManagementFactory;
import java.lang.reflect.Array;
import java.lang.reflect.Field;
import java.lang.reflect.Modifier;
import java.util.ArrayDeque;
import java.util.IdentityHashMap;
import java.util.Map;

/** All of a run lives in one room: an object is small, and no call makes anything. */
public final class RoomTest {
    private static int wrong;

    private static void demand(boolean is, String what) {
        if (!is) {
            wrong++;
            System.out.println(what);
        }
    }

    public static void main(String[] args) throws IllegalAccessException {
        anObjectIsSmall();
        callsMakeNothing();
        if (wrong != 0) {
            System.exit(1);
        }
    }

    private static void anObjectIsSmall() throws IllegalAccessException {
        Map<Object, Boolean> seen = new IdentityHashMap<>();
        ArrayDeque<Object> open = new ArrayDeque<>();
        open.push(new RainOpera());
        int elements = 0;
        while (!open.isEmpty()) {
            Object o = open.pop();
            if (seen.put(o, true) != null) {
                continue;
            }
            if (o.getClass().isArray()) {
                elements += Array.getLength(o);
                for (int i = 0; o instanceof Object[] && i < Array.getLength(o); i++) {
                    open.push(Array.get(o, i));
                }
                continue;
            }
            for (Field f : o.getClass().getDeclaredFields()) {
                if (Modifier.isStatic(f.getModifiers())) {
                    continue;
                }
                elements++;
                f.setAccessible(true);
                if (!f.getType().isPrimitive() && f.get(o) != null) {
                    open.push(f.get(o));
                }
            }
        }
        System.out.println("an object: " + seen.size() + " objects and arrays, " + elements + " fields and elements");
        demand(seen.size() <= 250 && elements <= 7000, "an object is too large");
    }

    private static void text(RainOpera x, String text, boolean isLaw) {
        for (int at = 0; at < text.length(); at += 20) {
            int[] words = new int[5];
            for (int j = 0; j < 20; j++) {
                words[j / 4] = words[j / 4] << 8 | (at + j < text.length() ? text.charAt(at + j) : 0);
            }
            x.feed(words[0], words[1], words[2], words[3], words[4]);
        }
        demand((isLaw ? x.law(text.length()) : x.score(text.length())) > 0, text);
    }

    private static void everyCall(RainOpera x) {
        for (int i = 0; i < 12; i++) {
            x.seat(0, i, i % 3 == 0, i);
            x.slate(i, 0, i, i, 40);
            x.guest(i, 5);
            x.sits(i, i % 4, 0, i);
            x.rain(i % 4, 3);
        }
        x.nail(3, true);
        x.note(0, 0);
        x.drops(0, 0);
        x.wet(0, 0, 0);
        x.guestWet(0, 0);
        x.house(0, 0);
        x.feed(0x00010203, 0x04050607, 0, 0, 0);
        x.seated(0, 255, 8, 11);
        x.transposed(0, 0);
        x.leftOut(0, 0, 0);
        x.nails(255, 0);
        x.feed(0, 0x01000200, 0, 0, 0);
        x.sung(0, 10, 0);
        x.sponge(5, 0);
        x.paid(4);
        x.keep();
        x.perform();
        x.soFar(0);
        x.seed(5);
        x.draw();
        x.undo();
        x.check(0, 0, 0);
        x.count(0);
    }

    private static void callsMakeNothing() {
        ThreadMXBean threads = (ThreadMXBean) ManagementFactory.getThreadMXBean();
        long thread = Thread.currentThread().getId();
        RainOpera x = new RainOpera();
        text(x, "dl+k(!v=1&p>3|[i+b]*2<9);s(v=3);m1(w>0);q10+y(1=1)", true);
        text(x, "s12x3,a9x1|t27x9/b5x2|s33x4/b30x9,s8x2", false);
        everyCall(x);
        threads.getThreadAllocatedBytes(thread);
        long before = threads.getThreadAllocatedBytes(thread);
        everyCall(x);
        everyCall(x);
        long made = threads.getThreadAllocatedBytes(thread) - before;
        System.out.println("two rounds of calls made " + made + " bytes");
        demand(made < 1024, "calls make objects");
    }
}

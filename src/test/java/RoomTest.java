import java.lang.management.ManagementFactory;
import java.lang.reflect.InvocationTargetException;
import java.lang.reflect.Method;
import java.lang.reflect.Modifier;
import java.util.ArrayList;
import java.util.Comparator;
import java.util.List;
import java.util.Random;

/** Whatever is asked, no call throws; and the dearest run of calls makes little. */
public final class RoomTest {
    private static final int RUNS = 150, CALLS = 512;
    private static final int[] FAR = {Integer.MIN_VALUE, Integer.MIN_VALUE + 1, -1000000, -101, -15, -3, -2, -1, 7, 40, 41, 59, 60,
        99, 160, 255, 256, 65536, 1000000, Integer.MAX_VALUE - 1, Integer.MAX_VALUE};
    private static int wrong = 0;

    public static void main(String[] args) throws Exception {
        for (int seed = 0; seed < RUNS; seed++) {
            wild(new Random(seed), seed);
        }
        dearest();
        System.out.println(wrong == 0 ? "no call throws, and the room is wide enough" : wrong + " things are not as due");
        if (wrong != 0) {
            System.exit(1);
        }
    }

    private static List<Method> face() {
        List<Method> all = new ArrayList<>();
        for (Method m : SchoolOnRaft.class.getDeclaredMethods()) {
            if (Modifier.isPublic(m.getModifiers())) {
                all.add(m);
            }
        }
        all.sort(Comparator.comparing(Method::getName));
        return all;
    }

    private static void wild(Random r, int seed) throws IllegalAccessException {
        List<Method> face = face();
        SchoolOnRaft x = new SchoolOnRaft();
        int texts = 0;
        for (int call = 0; call < CALLS; call++) {
            if (texts < 3 && r.nextInt(30) == 0) {
                texts++;
                String text = "hears (often<2) or known=bend;worth (((((age*9999*9999)))))-child*lesson;runs -----bend+not not 3;";
                for (int k = 0; k < text.length(); k++) {
                    x.feed(text.charAt(k));
                }
                call += text.length();
            }
            Method m = face.get(r.nextInt(face.size()));
            Object[] values = new Object[m.getParameterCount()];
            for (int k = 0; k < values.length; k++) {
                values[k] = r.nextInt(6) == 0 ? FAR[r.nextInt(FAR.length)] : r.nextInt(20) == 0 ? r.nextInt(60) : r.nextInt(6);
            }
            try {
                m.invoke(x, values);
            } catch (InvocationTargetException e) {
                wrong++;
                System.out.println("run " + seed + ": " + m.getName() + List.of(values) + " threw " + e.getCause());
                return;
            }
        }
    }

    private static void dearest() {
        com.sun.management.ThreadMXBean bean = (com.sun.management.ThreadMXBean) ManagementFactory.getThreadMXBean();
        long id = Thread.currentThread().getId();
        new SchoolOnRaft();
        long ahead = bean.getThreadAllocatedBytes(id);
        SchoolOnRaft x = new SchoolOnRaft();
        int calls = 0;
        for (int k = 0; k < 4; k++) {
            x.lesson(k, 6, 0);
        }
        for (int k = 0; k < 6; k++) {
            x.child(5, 9);
        }
        for (calls = 10; calls < CALLS; calls += 6) {
            x.set(4, 0, 5 + calls % 10);
            x.lay();
            x.chance(calls, 20, 3, 0, 0);
            x.sheet(calls % 4, 2, 40);
            x.aboard(0, 0, 0);
            x.text();
        }
        long made = bean.getThreadAllocatedBytes(id) - ahead;
        // The room has 7.3 million fields and elements; a byte is less than one of them.
        if (made > 1000000) {
            wrong++;
            System.out.println("a run makes " + made + " bytes");
        }
    }
}

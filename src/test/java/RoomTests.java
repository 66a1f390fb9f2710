import com.sun.management.ThreadMXBean;
import java.lang.management.ManagementFactory;

/** What a run makes: the object once, and nothing more in 512 of the dearest calls but the exceptions that are thrown. */
public final class RoomTests {
    private static final long MOST_OF_AN_OBJECT = 1_200_000;
    private static final long MOST_OF_A_RUN = 64 * 1024;
    private static int wrong = 0;

    private static void text(IdealWorks x, String s) {
        for (int at = 0; at < s.length(); at += 20) {
            int[] words = new int[5];
            int size = Math.min(20, s.length() - at);
            for (int k = 0; k < size; k++) {
                words[k / 4] |= s.charAt(at + k) << (24 - k % 4 * 8);
            }
            x.feed(words[0], words[1], words[2], words[3], words[4]);
            x.end(size);
        }
    }

    private static void atMost(String what, long got, long most) {
        System.out.println(what + ": " + got + " bytes");
        if (got > most) {
            wrong++;
            System.out.println("that is above " + most);
        }
    }

    private static void dearCalls(IdealWorks x) {
        for (int k = 0; k < 40; k++) {
            x.basis(0, 5);
            x.element(0, 0, 5);
            x.remainder(0, 1, 6);
            x.remainder(0, 5, 6);
            x.multiply(5, 7, 6);
            x.add(6, 3, 5, 6);
            x.derive(6, 0, 6);
            x.put(6, 1, 3, 6);
            x.print(6);
            x.both(0, 1, true, 2);
            x.zeros(0);
            x.dictionary(3);
        }
    }

    public static void main(String[] args) {
        ThreadMXBean bean = (ThreadMXBean) ManagementFactory.getThreadMXBean();
        long me = Thread.currentThread().getId();
        new IdealWorks();
        long before = bean.getThreadAllocatedBytes(me);
        IdealWorks x = new IdealWorks();
        atMost("an object", bean.getThreadAllocatedBytes(me) - before, MOST_OF_AN_OBJECT);
        x.field(3, 4, 0);
        String[] generators = {"x^2+y*z+w", "y^2+x*w+1", "z^2+2*x*y+2", "w^2+z+x"};
        for (int g = 0; g < generators.length; g++) {
            text(x, generators[g]);
            x.read(g);
            x.join(0, g);
            x.join(3, g);
        }
        x.join(1, 0);
        x.basis(3, 5);
        before = bean.getThreadAllocatedBytes(me);
        dearCalls(x);
        atMost("480 dear calls", bean.getThreadAllocatedBytes(me) - before, MOST_OF_A_RUN);
        text(x, "(".repeat(19) + "(x+y+z+w+1)^2*x^3" + ")".repeat(19));
        before = bean.getThreadAllocatedBytes(me);
        x.read(8);
        atMost("a read", bean.getThreadAllocatedBytes(me) - before, MOST_OF_A_RUN / 16);
        x.field(7, 3, 0);
        text(x, "x^2+y");
        x.read(0);
        x.join(0, 0);
        before = bean.getThreadAllocatedBytes(me);
        for (int k = 0; k < 500; k++) {
            x.radical(0, 0, 5);
        }
        for (int k = 0; k < 500; k++) {
            x.field(7, 1 + k % 4, k % 2);
        }
        atMost("500 radicals, 500 fields", bean.getThreadAllocatedBytes(me) - before, MOST_OF_A_RUN);
        System.out.println(wrong == 0 ? "the room is enough" : wrong + " things take too much");
        if (wrong != 0) {
            System.exit(1);
        }
    }
}

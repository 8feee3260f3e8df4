import com.sun.management.ThreadMXBean;
import java.lang.management.ManagementFactory;

/** What objects and their calls make in memory: all calls of a run share one room, so calls make nothing. */
public final class RoomTest {
    private static final ThreadMXBean BEAN = (ThreadMXBean) ManagementFactory.getThreadMXBean();
    /** The room holds 7.3 million fields and elements; an object with laws takes less than 30,000. */
    private static final long OBJECT = 4 * 14000;
    private static final long LAWS = 4 * 18000;
    private static int wrong = 0;

    public static void main(String[] args) {
        made();
        for (int letters = 0; letters < 3; letters++) {
            for (int degree = 0; degree < 5 - letters; degree++) {
                run(letters, degree, false);
                run(letters, degree, true);
            }
        }
        System.out.println(wrong == 0 ? "the room is kept small" : wrong + " times too much was made");
        if (wrong != 0) {
            System.exit(1);
        }
    }

    private static long made() {
        return BEAN.getThreadAllocatedBytes(Thread.currentThread().getId());
    }

    private static void check(long bytes, long most, String what) {
        if (bytes > most) {
            wrong++;
            System.out.println(what + " makes " + bytes + " bytes, " + most + " at most are due");
        }
    }

    private static void run(int letters, int degree, boolean checked) {
        long before = made();
        BracketLetters x = new BracketLetters(letters, degree);
        long behind = made();
        for (int i = 0; i < 15; i++) {
            callEach(x, i);
        }
        long end = made();
        if (checked) {
            String name = "(" + letters + ", " + degree + ")";
            check(behind - before, OBJECT, "a new object " + name);
            check(end - behind, LAWS, "512 calls of " + name);
        }
    }

    private static void callEach(BracketLetters x, int i) {
        x.clear(0);
        x.put(0, 1, 1 + i, 2);
        x.put(1, 2, 3, 1 + i);
        x.bracket(2, 0, 1);
        x.relate(2);
        x.add(0, 2, 1, 3);
        x.group(3, 0, 1);
        x.exp(4, 3);
        x.log(5, 4);
        x.inverse(5, 4);
        x.times(6, 5, 4);
        x.shuffle(6, 5, 4);
        x.turn(6, 6);
        x.derive(6, 5, 0, 4);
        x.replace(6, 5, 0, 3);
        x.part(7, 6, 2);
        x.pair(6, 5);
        x.share(4, 10);
        x.lie(3);
        x.table(0, 1, 2);
        x.basis(7, 2);
        x.text(2, 1);
        x.side(2, 1);
        x.step(0, 1, 2);
        x.scheme(7);
        x.order();
        x.size(2);
        x.feed(0x45287230292B4C28L, 8);
        x.feed(0x7234292D5B612C62L, 8);
        x.feed(0x5D2F3132L, 4);
        x.read(7);
        x.fraction(12345678, 0);
        x.at(7, 1);
        x.count(6);
    }
}

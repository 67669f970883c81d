import com.sun.management.ThreadMXBean;
import java.lang.management.ManagementFactory;

/** All calls of a run live in one room: an object is small, and its calls make nothing. */
public final class RoomTest {
    private static final Check CHECK = new Check("RoomTest");
    private static final String FOUR = "service a price 9 size 150 slope 4 cost 3 quality 5 target 9;"
            + "service b price 7 size 120 slope 3 cost 4;service c price 5 size 90 slope 1 cost 2;"
            + "service d price 8 size 70 slope 0 cost 6;buyer e 1,2,3,4;buyer f 4,3,2,1;index 4;x 2;due 1";
    private static final int[][] FEEDS = Texts.numbers(FOUR);

    public static void main(String[] args) {
        ThreadMXBean bean = (ThreadMXBean) ManagementFactory.getThreadMXBean();
        for (int i = 0; i < 3; i++) {
            calls(new BasketCap());
        }
        long start = bean.getCurrentThreadAllocatedBytes();
        BasketCap cap = new BasketCap();
        long made = bean.getCurrentThreadAllocatedBytes();
        calls(cap);
        long end = bean.getCurrentThreadAllocatedBytes();
        System.out.println("RoomTest: a new object takes " + (made - start) + " bytes, its calls " + (end - made));
        CHECK.due("a new object is small", made - start < 40_000, true);
        CHECK.due("calls make next to nothing", end - made < 4_000, true);
        CHECK.end();
    }

    private static void calls(BasketCap cap) {
        for (int[] f : FEEDS) {
            cap.feed(f[0], f[1], f[2], f[3], f[4]);
        }
        cap.text(FOUR.length());
        for (int i = 0; i < 10; i++) {
            cap.price(i % 4, i);
            cap.best();
            cap.fair();
            cap.rows();
            cap.game(0);
            cap.path(8, 0);
            cap.gentle();
            cap.steady(i);
            cap.level(1, 0);
            cap.trade(0);
            cap.reach(3);
            cap.next();
            cap.share(0, 0);
            cap.write();
            cap.lay(i % 2 == 0);
            cap.quality(0, i);
            cap.become(0, i);
            cap.year(true);
            cap.keep(0);
            cap.undo();
            cap.back(0);
            cap.book(0, 0);
        }
    }
}

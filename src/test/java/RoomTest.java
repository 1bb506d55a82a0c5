import com.sun.management.ThreadMXBean;
import java.lang.management.ManagementFactory;

/** How much room 512 of the dearest calls take: some 7.3 million fields are all there is for a whole run. */
public final class RoomTest {
    private static final String TIGHT = "band 60;orders 7;guard 1;loss 0 0 0;user a 0 30 1 60;user b 0 30 1 60;"
            + "user c 0 30 1 60;user d 0 30 1 60;user e 0 30 1 60;user f 0 30 1 60;fixed a 5;fixed b 5;fixed c 6;"
            + "fixed d 7;fixed e 8;fixed f 60;";

    private interface Call {
        int run(QuietChannels x);
    }

    private static long used(Call call, int times) {
        ThreadMXBean bean = (ThreadMXBean) ManagementFactory.getThreadMXBean();
        QuietChannels x = Due.told(TIGHT);
        call.run(x);
        long id = Thread.currentThread().getId();
        long before = bean.getThreadAllocatedBytes(id);
        for (int i = 0; i < times; i++) {
            call.run(x);
        }
        return bean.getThreadAllocatedBytes(id) - before;
    }

    public static void main(String[] args) {
        int wrong = 0;
        String[] names = {"mended", "leastBand", "spare", "chance", "turned", "grown", "products", "bestSwap", "text"};
        Call[] calls = {QuietChannels::mended, QuietChannels::leastBand, x -> x.spare(0), x -> x.chance(1, 20, 0),
            x -> x.turned(-1), x -> x.grown(7, 0, 1, 7), x -> x.products(0), QuietChannels::bestSwap, x -> x.text(0)};
        for (int i = 0; i < calls.length; i++) {
            int times = i < 3 ? 20 : 512;
            long bytes = used(calls[i], times) / times;
            // A text makes a reader and a scene anew, some 600 bytes; nothing else makes anything.
            if (bytes > (names[i].equals("text") ? 2000 : 100)) {
                wrong++;
                System.out.println("RoomTest: " + names[i] + " takes " + bytes + " bytes a call");
            }
        }
        long made = used(x -> new QuietChannels().count(0), 512) / 512;
        if (made > 40000) {
            wrong++;
            System.out.println("RoomTest: a new object takes " + made + " bytes");
        }
        System.out.println("RoomTest: " + wrong + " wrong");
        if (wrong > 0) {
            System.exit(1);
        }
    }
}

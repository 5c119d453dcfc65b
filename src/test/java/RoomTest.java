import com.sun.management.ThreadMXBean;
import java.lang.management.ManagementFactory;

/** All memory is the court's own: what an object needs is made with it, and no call makes anything. */
public final class RoomTest extends CupChecks {
    /** What the measuring itself may make. */
    private static final long SLACK = 1000;
    private static final long MOST_BYTES_OF_AN_OBJECT = 60000;

    private static final ThreadMXBean METER = (ThreadMXBean) ManagementFactory.getThreadMXBean();

    public static void main(String[] args) {
        begin("All memory is the court's own");
        // The first round loads classes.
        long first = bytesOfAnObject();
        long calls = bytesOfCalls();
        first = bytesOfAnObject();
        calls = bytesOfCalls();
        due("bytes of an object: " + first, first <= MOST_BYTES_OF_AN_OBJECT, true);
        due("bytes of calls: " + calls, calls <= SLACK, true);
        end("no call makes an object");
    }

    private static long bytesOfAnObject() {
        long before = METER.getCurrentThreadAllocatedBytes();
        StolenCup cup = new StolenCup();
        long after = METER.getCurrentThreadAllocatedBytes();
        due("a new one", cup.count(0), 0);
        return after - before;
    }

    /** Calls of each promise, with as much in the court as it takes. */
    private static long bytesOfCalls() {
        StolenCup cup = new StolenCup();
        long before = METER.getCurrentThreadAllocatedBytes();
        for (int k = 0; k < 12; k++) {
            cup.person(k % 6, 100);
        }
        for (int t = 0; t < 4; t++) {
            cup.thing(t + 1, t, 0);
        }
        for (int land = 0; land < 6; land++) {
            // s(k=0);y(d>99);a(1=1)
            cup.feed(0x73286B3D, 0x30293B79, 0x28643E39, 0x39293B61, 0x28313D31);
            cup.feed(0x29000000, 0, 0, 0, 0);
            cup.law(land, 21);
            cup.sends(land, land, land);
            cup.road(land, (land + 1) % 6, land);
        }
        cup.now(599);
        for (int k = 0; k < 18; k++) {
            cup.passing(0, k % 3 == 0 ? STOLEN : SALE, 4 + k % 3, k % 6, 500 - 20 * k, 0, 7, 0, k < 8 ? 2 : 0);
        }
        for (int f = 0; f < 6; f++) {
            ask(cup, f);
        }
        return METER.getCurrentThreadAllocatedBytes() - before;
    }

    private static void ask(StolenCup cup, int f) {
        cup.rules(f, 0, 3, 0);
        cup.whose(f, 0);
        cup.title(f, 0, 3);
        cup.when(f, 0, 3, 0);
        cup.holds(0);
        cup.register(0);
        cup.may(f, 0);
        cup.hangs(f, 0);
        cup.asked(f, 0, 3, 1);
        cup.back(f, 0);
        cup.out(f, 0, 3);
        cup.joined(f, 0, 1, 2);
        cup.cheapest(f, 0, 0, 9, 10, 1);
        cup.stopped(f, 0, 0, 9, 10, 3);
        cup.mind(0, 3, 0, 0);
        cup.feed(0, 0, 0, 0, 0);
        cup.check(f, 0, 5);
        cup.look(0, 3, 8);
        cup.count(10);
    }
}

import com.sun.management.ThreadMXBean;
import java.lang.management.ManagementFactory;

/** All calls of a run live in one room: no call makes anything that stays or goes. */
public final class RoomTest {
    public static void main(String[] args) {
        Check check = new Check();
        ThreadMXBean bean = (ThreadMXBean) ManagementFactory.getThreadMXBean();
        ThroughOthers x = new ThroughOthers();
        useAll(x, 0);
        long before = bean.getThreadAllocatedBytes(Thread.currentThread().getId());
        long sum = 0;
        for (int round = 0; round < 40; round++) {
            sum += useAll(x, round);
        }
        long made = bean.getThreadAllocatedBytes(Thread.currentThread().getId()) - before;
        // The measuring itself takes some.
        check.due("bytes made by calls: " + made + " (" + sum + "), too many", made > 20000 ? 1 : 0, 0);
        check.end();
    }

    private static long useAll(ThroughOthers x, int i) {
        long sum = x.persons(9) + x.set(1, 7) + x.tie(i % 9, (i + 1) % 9, i % 3 != 0) + x.kind(i % 9, i & 1);
        sum += x.came(i % 2 - 1, i & 1, 1 + i % 20, 0) + x.type(i % 24, 'a' + i % 3);
        sum += x.sheet(i & 3, i % 3, i % 60) + x.lay(i & 3, i % 3, 0, i) + x.get(i & 3, i % 3, 0);
        sum += x.write(0, i & 3) + x.read(i & 3, 0) + x.copy(i & 3, 0, i & 3, 0, 1);
        sum += x.far(0, 8) + x.found(0, 1) + x.both(0, 1, 1) + x.size(3, 1) + x.kinds(1, 1) + x.within(9, 1);
        sum += x.at(5, 0, 1) + x.lasting(0, 1) + x.strayed(5, 1) + x.share(2, 1) + x.bounds(5, 0, 1);
        sum += x.leaving(0, 1) + x.alike(1) + x.forgot(6, 1) + x.wave(1) + x.clash(0, 1) + x.least() + x.ones(0);
        sum += x.reach(1) + x.parts(1) + x.narrow(1) + x.count(9) + x.digest() + x.wipe(i % 24) + x.lose(i & 3);
        return sum + x.record(0, 7) + x.about(0, 0) + (i > 10 ? x.takeBack(i % 24, 0) : 0);
    }
}

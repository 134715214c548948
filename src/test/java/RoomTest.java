import com.sun.management.ThreadMXBean;
import java.lang.management.ManagementFactory;

/** All calls of a run live in one room: 512 calls, the dearest ones, make nothing that stays in it. */
public final class RoomTest {
    private static final int CALLS = 512;
    // What the machine takes by itself while the calls run; 512 calls that made one array each would take more.
    private static final long SLACK = 4096;
    // 7.3 million elements of 4 bytes are the room of a run; an object takes a small part of it.
    private static final long OBJECT = 200000;

    public static void main(String[] args) {
        Due due = new Due();
        ThreadMXBean machine = (ThreadMXBean) ManagementFactory.getThreadMXBean();
        run(new BlockTrees());
        long begin = machine.getCurrentThreadAllocatedBytes();
        BlockTrees trees = new BlockTrees();
        long made = machine.getCurrentThreadAllocatedBytes();
        run(trees);
        long end = machine.getCurrentThreadAllocatedBytes();
        System.out.println("an object: " + (made - begin) + " bytes, its calls: " + (end - made) + " bytes");
        due.holds("an object is small", made - begin < OBJECT);
        due.holds("its calls make nothing", end - made < SLACK);
        due.finish();
    }

    private static void run(BlockTrees trees) {
        long text = Due.number("f1,2,-3");
        for (int call = 0; call < CALLS; call += 32) {
            trees.wipe();
            trees.put(text);
            trees.fault();
            trees.tell(0);
            for (int cell = 0; cell < 4; cell++) {
                trees.entry(0, call / 32, 4 * cell, cell);
            }
            trees.save(call / 32 % 2);
            trees.copy(1, 0);
            trees.turn(1);
            trees.add(1, 0, -3);
            trees.bestTimes(0, 1, 1);
            trees.wouldTake(0);
            trees.shrink(1);
            trees.isOne(0, 0, 0, 16);
            trees.far(0, 1);
            trees.mean(0);
            trees.share(0);
            trees.product(0, 0, 1, 1);
            trees.clear(0, 0, 0);
            trees.at(0, 0, 0);
            trees.block(0, 0, 0, 5);
            trees.of(0, 1);
            trees.of(0, 5);
            trees.of(0, 10);
            trees.count(1);
            trees.undo();
            trees.restore(call / 32 % 2);
            trees.tell(9);
        }
    }
}

import com.sun.management.ThreadMXBean;
import java.lang.management.ManagementFactory;

/** All calls of one object live in one small room: no call makes an object. */
public final class RoomTest {
    private static final Check check = new Check();
    private static final String TEXT = "D845A07c71c76B67b46a42B27B";
    private static int sink = 0;

    public static void main(String[] args) {
        ThreadMXBean memory = (ThreadMXBean) ManagementFactory.getThreadMXBean();
        if (!memory.isThreadAllocatedMemorySupported()) {
            System.out.println("this machine doesn't count what a thread makes");
            return;
        }
        DyckReachability warm = new DyckReachability();
        DyckReachability x = new DyckReachability();
        char[] text = TEXT.toCharArray();
        allCalls(warm, text);
        memory.getThreadAllocatedBytes(Thread.currentThread().getId());
        long before = memory.getThreadAllocatedBytes(Thread.currentThread().getId());
        for (int i = 0; i < 10; i++) {
            allCalls(x, text);
        }
        long after = memory.getThreadAllocatedBytes(Thread.currentThread().getId());
        check.holds("bytes made by ten rounds of calls: " + (after - before), after - before < 1000);
        check.holds("the calls answered", sink != 0);
        check.end();
    }

    private static void allCalls(DyckReachability x, char[] text) {
        sink += x.clearText();
        for (int i = 0; i < text.length; i++) {
            sink += x.append(text[i]);
        }
        sink += x.errorPosition() + x.load() + x.vertexCount() + x.edgeCount();
        sink += x.source(0) + x.target(0) + x.label(0);
        sink += x.save(0) + x.share(0) + x.reliability(0, 1, 3);
        sink += x.addEdge(0, 1, 0) + x.removeEdge(0) + x.setLabel(0, 0) + x.undo() + x.restore(0);
        sink += x.reachableFrom(0) + x.pairCount() + x.distance(4, 7) + x.witnessEdge(4, 7, 1);
        sink += x.depth(4, 7) + x.loss(1) + x.criticalEdge() + x.representative(7);
        sink += x.runScript(4, 1011300150015001L) + x.observe(0, 1, 1) + x.possibleLabels(0);
        sink += x.clearObservations() + (int) x.setSeed(1L) + x.simulate(40);
    }
}

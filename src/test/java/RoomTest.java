import java.lang.management.ManagementFactory;
import java.util.Random;

/** All calls of a run live in one room: what an object makes, it makes in its constructor. */
public final class RoomTest {
    public static void main(String[] args) {
        BlackLine x = Check.with("floor 9 by 9;grey 1 1 9;box a at 0 0 way 1;box b at 3 3 way 2;box c at 8 8 way 0;"
                + "steers if(step%5=1,right-left,1);goes lost<9 or turned=0;cat 30;");
        Random random = new Random(1);
        int[] seen = new int[1];
        all(x, random, seen);
        com.sun.management.ThreadMXBean bean =
                (com.sun.management.ThreadMXBean) ManagementFactory.getThreadMXBean();
        long thread = Thread.currentThread().getId();
        bean.getThreadAllocatedBytes(thread);
        long before = bean.getThreadAllocatedBytes(thread);
        for (int k = 0; k < 50; k++) {
            all(x, random, seen);
        }
        long after = bean.getThreadAllocatedBytes(thread);
        Check.due("bytes made by calls: " + (after - before), after - before < 2000, true);
        BlackLine[] made = new BlackLine[10];
        before = bean.getThreadAllocatedBytes(thread);
        for (int k = 0; k < made.length; k++) {
            made[k] = new BlackLine();
        }
        after = bean.getThreadAllocatedBytes(thread);
        Check.due("bytes of an object: " + (after - before) / made.length,
                (after - before) / made.length < 100000, true);
        Check.finish();
    }

    private static void all(BlackLine x, Random random, int[] seen) {
        int box = random.nextInt(4) - 1;
        int n = random.nextInt(100);
        x.feed(n, n, n, n, n);
        x.end(n % 21);
        seen[0] += x.kitchen() + x.fault(0) + x.has(n % 11) + x.letter(box, 0) + x.cell(1, 1, 1);
        seen[0] += x.box(box, 1) + x.sees(box, 1) + x.later(box, n, 1) + x.round(box) + x.loses(box, n);
        seen[0] += x.jam() + x.gap(box, 0, n) + x.tuned(box, n, 2) + x.found(box) + x.spaced(n) + x.bright(n);
        x.feed(0, 0, 0, 0, 0);
        x.end(9);
        seen[0] += x.track() + x.wheel(box, 0) + x.wheel(box, 1) + x.steps(n % 5) + x.chance(n % 5);
        seen[0] += (x.turn(box, n % 5) ? 1 : 0) + (x.put(box, n % 9, n % 7) ? 1 : 0) + (x.shine(n % 9) ? 1 : 0);
        seen[0] += (x.undo() ? 1 : 0) + (x.seed(n) ? 1 : 0) + x.kept(0, 0) + x.image() + x.octet(3);
        seen[0] += (x.on() ? 1 : 0) + x.status(3);
    }
}

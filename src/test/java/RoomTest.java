import java.lang.management.ManagementFactory;

/** All calls of a run live in one room: an object makes its rows when it is made, and its calls make nothing. */
public final class RoomTest {
    private static final Due due = new Due();
    private static final int CALLS = 512;

    public static void main(String[] args) {
        com.sun.management.ThreadMXBean room = (com.sun.management.ThreadMXBean) ManagementFactory.getThreadMXBean();
        run(new ZoneJudge());
        long atFirst = room.getThreadAllocatedBytes(Thread.currentThread().getId());
        ZoneJudge judge = new ZoneJudge();
        long made = room.getThreadAllocatedBytes(Thread.currentThread().getId());
        long sum = run(judge);
        long atLast = room.getThreadAllocatedBytes(Thread.currentThread().getId());
        System.out.println("an object takes " + (made - atFirst) + " bytes, its calls " + (atLast - made) + " (" + sum + ")");
        due.isTrue("an object is small", made - atFirst < 40000);
        due.isTrue("calls make nothing", atLast - made < 4096);
        due.end();
    }

    private static long run(ZoneJudge judge) {
        long sum = 0;
        for (int k = 0; k < 10; k++) sum += judge.add(k * k % 31 - 15, k * 7 % 31 - 15, k * 11 % 31 - 15);
        for (int s = 0; s < 4; s++) sum += judge.sheet(s, s, 24);
        for (int k = 14; k < CALLS; k += 16) {
            sum += judge.drift(3) + judge.judge(3, 5) + judge.judge(k % 3, 0) + judge.way(3, 2) + judge.without(3, 4, 0);
            sum += judge.lost(k % 3, 3, 1) + judge.hull(k % 3, 1) + judge.edge(k % 3, 1, 0) + judge.count(3);
            sum += judge.undo() + judge.image() + judge.restore() + judge.film(k % 3, k % 4, k % 4, 0);
            sum += judge.corners(k % 4, k % 4, 0, 10) + judge.copy(0, 0, 0, 3, 20) + judge.type(' ') + judge.read();
        }
        return sum;
    }
}

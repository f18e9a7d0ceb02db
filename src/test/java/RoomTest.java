import java.lang.management.ManagementFactory;

/** All rows are made with the object: what a whole run makes is small, however dear its calls. */
public final class RoomTest {
    private static final Due due = new Due();
    private static long sum;

    public static void main(String[] args) {
        com.sun.management.ThreadMXBean bean = (com.sun.management.ThreadMXBean) ManagementFactory.getThreadMXBean();
        long thread = Thread.currentThread().getId();
        ClashRocks warm = Due.strait("p30/24/20,s30/23/20,t30/22/15,f30/21/18,p30/20/19,p30/2/2;P95,P91,L95,B95,T95");
        dearCalls(warm, 10);
        long before = bean.getThreadAllocatedBytes(thread);
        ClashRocks x = new ClashRocks();
        long made = bean.getThreadAllocatedBytes(thread) - before;
        due.is("an object of " + made + " bytes is small", made < 40000 ? 1 : 0, 1);
        long ahead = bean.getThreadAllocatedBytes(thread);
        dearCalls(warm, 20);
        long more = bean.getThreadAllocatedBytes(thread) - ahead;
        due.is("calls make " + more + " bytes", more < 20000 ? 1 : 0, 1);
        sum += x.count(0);
        due.is("something was answered", sum != 0 ? 1 : 0, 1);
        due.end();
    }

    private static void dearCalls(ClashRocks x, int times) {
        for (int i = 0; i < times; i++) {
            sum += x.soonest(0, i, -2) + x.soonest(1, i, 0) + x.rudder(2, i, 999) + x.sure(3, i) + x.stones(4, i, -1);
            sum += x.lots(0, 99) + x.worth(0, 3) + x.next(i, 1) + x.fits(0) + x.foretell(i) + x.convoy(0, i, 31);
            sum += x.image() + x.restore() + x.idle(9) + x.undo() + x.sheet(0, 3, 16) + x.film(i, 0, 3, 0);
            sum += x.judged(0, i, 0, 3, 0, 0) + x.copy(0, 0, 0, 1, 5) + x.setOut(0) + x.pass(1) + x.type('p') + x.strait();
        }
    }
}

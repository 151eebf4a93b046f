import com.sun.management.ThreadMXBean;
import java.lang.management.ManagementFactory;

/** A run has one room: an object is small, and its dearest calls make next to nothing in it. */
public final class RoomTest {
    public static void main(String[] args) {
        Sheet sheet = new Sheet("room");
        ThreadMXBean meter = (ThreadMXBean) ManagementFactory.getThreadMXBean();
        dearRun(new NeedSteps());
        long before = meter.getCurrentThreadAllocatedBytes();
        NeedSteps x = new NeedSteps();
        long made = meter.getCurrentThreadAllocatedBytes();
        sheet.holds("bytes of an object: " + (made - before), made - before < 200_000);
        dearRun(x);
        long after = meter.getCurrentThreadAllocatedBytes();
        sheet.holds("bytes of its calls: " + (after - made), after - made < 200_000);
        sheet.end();
    }

    private static void dearRun(NeedSteps x) {
        Sheet.feed(x, "main=let f=fib 7;in add f f;"
            + "fib n=if(less n 2)n(add(fib(sub n 1))(fib(sub n 2)));");
        x.read();
        for (int i = 0; i < 80; i++) {
            x.step(2000);
            x.sweep();
            x.way(i, -1);
            x.node(i, 4);
            x.back(1);
            x.share();
        }
    }
}

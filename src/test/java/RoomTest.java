import com.sun.management.ThreadMXBean;
import java.lang.management.ManagementFactory;

/** All calls of a run live in one room: calls on an object that has been made must not fill it. */
public final class RoomTest {
    private static final ThreadMXBean THREADS = (ThreadMXBean) ManagementFactory.getThreadMXBean();

    public static void main(String[] args) {
        String text = "m=M(V(x,y),V(t,0.5));n=m*m;V(A(n*c.xy),D(c,-c))+S(N(c,1),X(t,c))/F(c*9)";
        dearest(text);
        long before = THREADS.getCurrentThreadAllocatedBytes();
        dearest(text);
        long used = THREADS.getCurrentThreadAllocatedBytes() - before;
        // One object with its rows, and what the measuring itself takes.
        Check.yes("512 calls take " + used + " bytes", used < 50000);
        Check.end();
    }

    private static void dearest(String text) {
        PixelFormula formula = new PixelFormula();
        Check.type(formula, text);
        for (int i = 0; i < 120; i++) {
            if (!formula.compile()) {
                Check.yes("compile() of " + text, false);
            }
            formula.run(i);
            formula.value(formula.size() - 1, i, i, i, i);
        }
    }
}

import com.sun.management.ThreadMXBean;
import java.lang.management.ManagementFactory;

/** The dearest calls on the greatest fronts: they end, they end soon, and they make next to nothing. */
public final class DearRunTest {
    private static final String GREATEST =
            "wx0h1c9f60;wx2h1c9f60;wx3h1c9f60;wx5h1c9f60;bn12;bn12;bn12;lk9";
    private static final String RULE = "y:[[[[[[d+1]]]]]]*2>3&!(!(o=1|k=1))?c*10-d;y:f/2-h*o";
    private static final int ALL_ROWS = 25 * 25 * 25;
    /** All rows once as ints, and some thousand numbers more. */
    private static final long MOST_BYTES = 160000;

    private DearRunTest() {
    }

    private static int[] packed(String text) {
        int[] fours = new int[(text.length() + 19) / 20 * 5];
        for (int i = 0; i < text.length(); i++) {
            fours[i / 4] |= text.charAt(i) << (24 - 8 * (i % 4));
        }
        return fours;
    }

    private static void put(ThreeLadders x, int[] fours, int sort) {
        x.end(0);
        for (int i = 0; i < fours.length; i += 5) {
            x.feed(fours[i], fours[i + 1], fours[i + 2], fours[i + 3], fours[i + 4]);
        }
        x.text(sort);
    }

    private static int dearCalls(int n, int[] front, int[] rule) {
        ThreeLadders x = new ThreeLadders();
        put(x, front, 0);
        for (int i = 0; i < 6; i++) {
            put(x, rule, 1);
        }
        int sum = 0;
        for (int i = 0; i < n; i++) {
            x.change(2, i);
            x.rule(i % 3, i % 4);
            sum += x.rests(i) + x.loss() + x.laws(1) + x.bribe() + x.explain(i) + x.choice() + x.drawn(40, i);
            sum += x.best(0, 0, 0) + x.image() + x.back();
            put(x, front, 0);
        }
        return sum;
    }

    private static void makesLittle() {
        int[] front = packed(GREATEST);
        int[] rule = packed(RULE);
        dearCalls(2, front, rule);
        ThreadMXBean threads = (ThreadMXBean) ManagementFactory.getThreadMXBean();
        long self = Thread.currentThread().getId();
        long before = threads.getThreadAllocatedBytes(self);
        dearCalls(30, front, rule);
        long made = threads.getThreadAllocatedBytes(self) - before;
        Due.is("little is made (" + made + " bytes)", made < MOST_BYTES, true);
    }

    public static void main(String[] args) {
        ThreeLadders x = Due.front(GREATEST);
        Due.is("all rows may be", x.explain(ThreeLadders.NONE), ALL_ROWS);
        Due.is("the last row", x.explain(ALL_ROWS - 1), 999999);
        Due.is("27 at most", x.most(1), 27);
        makesLittle();
        long began = System.nanoTime();
        dearCalls(40, packed(GREATEST), packed(RULE));
        long seconds = (System.nanoTime() - began) / 1000000000L;
        Due.is("soon (it took " + seconds + " s)", seconds < 60, true);
        Due.end("DearRunTest");
    }
}

/** The dearest calls on the greatest fronts: they end, and they end soon. */
public final class DearRunTest {
    private static final String GREATEST =
            "wx0h1c9f60;wx2h1c9f60;wx3h1c9f60;wx5h1c9f60;bn12;bn12;bn12;lk9";
    private static final int CALLS = 512;

    private DearRunTest() {
    }

    public static void main(String[] args) {
        ThreeLadders x = Due.front(GREATEST);
        Due.is("all rows may be", x.explain(ThreeLadders.NONE), 25 * 25 * 25);
        Due.is("the last row", x.explain(25 * 25 * 25 - 1), 999999);
        Due.is("27 at most", x.most(1), 27);
        long began = System.nanoTime();
        for (int n = 0; n < CALLS / 8; n++) {
            Due.is("change", x.change(2, n), true);
            x.rests(n);
            x.loss();
            x.laws(1);
            x.bribe();
            x.explain(n);
            x.drawn(40, n);
            Due.tape(x, GREATEST);
            x.text(0);
        }
        long seconds = (System.nanoTime() - began) / 1000000000L;
        Due.is("soon (it took " + seconds + " s)", seconds < 60, true);
        Due.end("DearRunTest");
    }
}

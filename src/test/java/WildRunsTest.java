import java.util.NoSuchElementException;
import java.util.Random;

/** Calls with any numbers in any state: none throws but the one that the document lets throw, and all end. */
public final class WildRunsTest {
    private static final int RUNS = 300;
    private static final int CALLS = 512;
    private static final int[] EDGES = {Integer.MIN_VALUE, Integer.MIN_VALUE + 1, -1000001, -1000000, -100, -99, -2, -1,
        98, 99, 100, 101, 255, 256, 9899, 9999, 10000, 999899, 999999, 1000000, 99999999, 100000000,
        Integer.MAX_VALUE - 1, Integer.MAX_VALUE};
    private static final String[] FRONTS = {"w;b", "wh1c9f60;wx5h1c9f60;bn12;bn12", "wh9;bn8;bn1",
        "wx1h2c3;wx4;b;ba2n4;bn5p2;lk7s3q1", "wc0;wf1;w;w;b;b;b;lq2s99", "wx3h1c1f11;ba0n4p2;ba0n2p1;lk2s2"};
    private static final String[] RULES = {"y:1", "y:o+k*2-d;y:5", "y:!(d=0|c>f)&h<3?9999*9999*[0-1];y:f/d",
        "y:[[[[[[c]]]]]]/0", "y:((((((d=1))))))?k", "y:" + "9999*".repeat(31) + "1"};
    private static final String SIGNS = "wbl;xhcfanpskqy:?|&!()=<>+-*/do[]0123456789 ";

    private final Random draws;
    private final ThreeLadders x = new ThreeLadders();
    /** Of all runs together: brigades that there were not. */
    private static int refused = 0;

    private WildRunsTest(int run) {
        draws = new Random(run);
    }

    private int any() {
        int kind = draws.nextInt(8);
        return kind == 0 ? draws.nextInt() : kind == 1 ? EDGES[draws.nextInt(EDGES.length)] : draws.nextInt(11) - 1;
    }

    private int anyRow() {
        return draws.nextInt(3) == 0 ? any() : x.explain(draws.nextInt(40));
    }

    private void tape() {
        if (draws.nextInt(4) > 0) {
            x.end(0);
        }
        String text = draws.nextBoolean() ? FRONTS[draws.nextInt(FRONTS.length)] : RULES[draws.nextInt(RULES.length)];
        StringBuilder made = new StringBuilder(draws.nextInt(4) == 0 ? "" : text);
        for (int n = draws.nextInt(3) == 0 ? draws.nextInt(60) : 0; n > 0; n--) {
            made.insert(draws.nextInt(made.length() + 1), SIGNS.charAt(draws.nextInt(SIGNS.length())));
        }
        for (int from = 0; from < made.length(); from += 20) {
            int[] five = new int[5];
            for (int i = 0; i < 20 && from + i < made.length(); i++) {
                five[i / 4] |= made.charAt(from + i) << (24 - 8 * (i % 4));
            }
            x.feed(five[0], five[1], five[2], five[3], five[4]);
        }
        x.fault(0);
        x.fault(1);
        x.text(draws.nextInt(2));
    }

    private void wrongBrigade() {
        try {
            x.brigade(any(), any());
        } catch (NoSuchElementException e) {
            refused++;
        }
    }

    private void look(int kind) {
        switch (kind) {
            case 0: x.window(any(), any()); break;
            case 1: x.law(any()); break;
            case 2: x.reaches(any(), any()); break;
            case 3: x.told(anyRow(), any(), any()); break;
            case 4: x.all(anyRow(), any()); break;
            case 5: x.child(anyRow(), any(), any()); break;
            case 6: x.best(anyRow(), any(), any()); break;
            case 7: x.rests(any()); break;
            case 8: x.most(any()); break;
            case 9: x.loss(); break;
            case 10: x.laws(any()); break;
            case 11: x.bribe(); break;
            case 12: x.choice(); break;
            case 13: x.explain(any()); break;
            case 14: x.knocked(); break;
            case 15: x.joined(any(), any()); break;
            case 16: x.reach(any()); break;
            case 17: x.alone(any(), any()); break;
            case 18: x.count(any()); break;
            default: wrongBrigade();
        }
    }

    private void alter(int kind) {
        switch (kind) {
            case 0: x.feed(any(), any(), any(), any(), any()); break;
            case 1: x.end(any()); break;
            case 2: x.fault(any()); break;
            case 3: x.text(any()); break;
            case 4: x.change(any(), any()); break;
            case 5: x.rule(any(), any()); break;
            case 6: x.ash(any(), any(), any()); break;
            case 7: x.night(anyRow()); break;
            case 8: x.drawn(any(), draws.nextLong()); break;
            case 9: x.undo(); break;
            case 10: x.image(); break;
            case 11: x.back(); break;
            default: tape();
        }
    }

    /** What was thrown is told with its run: the same draws lead there again. */
    private static void run(int run) {
        WildRunsTest one = new WildRunsTest(run);
        String wrong = "";
        try {
            for (int call = 0; call < CALLS / 2; call++) {
                if (one.draws.nextBoolean()) {
                    one.look(one.draws.nextInt(21));
                } else {
                    one.alter(one.draws.nextInt(16));
                }
            }
        } catch (RuntimeException e) {
            wrong = e.toString();
        }
        Due.is("run " + run + " " + wrong, wrong.isEmpty(), true);
    }

    public static void main(String[] args) {
        for (int run = 0; run < RUNS; run++) {
            run(run);
        }
        Due.is("brigades that there were not threw", refused > 0, true);
        Due.end("WildRunsTest");
    }
}

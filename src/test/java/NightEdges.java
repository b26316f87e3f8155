import java.math.BigInteger;
import java.util.ArrayList;
import java.util.Arrays;
import java.util.List;
import java.util.function.Consumer;

/** Edges of nights, draws, what is undone and images, and of all that is refused; promises 28 to 33. */
final class NightEdges {
    private static final int NONE = ThreeLadders.NONE;
    private static final int HIDDEN = ThreeLadders.HIDDEN;
    private static final int LEAST = Integer.MIN_VALUE;
    private static final int GREATEST = Integer.MAX_VALUE;
    private static final BigInteger TIMES = new BigInteger("6364136223846793005");
    private static final BigInteger AND = new BigInteger("1442695040888963407");
    private static final BigInteger ROUND = BigInteger.ONE.shiftLeft(64);

    private final Sentences doc;

    NightEdges(Sentences doc) {
        this.doc = doc;
    }

    void run() {
        nights();
        nightsRefused();
        draws();
        drawnRows();
        drawnRefused();
        undone();
        undoRefused();
        images();
        imageRefused();
        backRefused();
        counts();
        refusedChangesNothing();
    }

    /** One child for one brigade straight up: a night by row 0 gains the pay, one by 99 what standing back pays. */
    private static ThreeLadders small() {
        return Due.front("wh1;bn1");
    }

    private static void stands(ThreeLadders x, int nights, int undoable, int saved, int gains) {
        Due.is("nights", x.count(4), nights);
        Due.is("that can be undone", x.count(5), undoable);
        Due.is("saved", x.count(6), saved);
        Due.is("saved by 0", x.brigade(0, 4), saved);
        Due.is("gains of 0", x.brigade(0, 5), gains);
    }

    private void nights() {
        doc.says(0, "NIGHTS: a row of PUTS that is played: SAVED, GAINS come to all that is put by");
        ThreeLadders x = small();
        stands(x, 0, 0, 0, 0);
        x.night(0);
        stands(x, 1, 1, 1, 10);
        x.night(99);
        stands(x, 2, 2, 1, 10);
        x.change(0, 99);
        x.change(1, 98);
        x.night(0);
        stands(x, 3, 3, 2, 109);
        x.night(99);
        stands(x, 4, 4, 2, 207);
        ThreeLadders less = Due.front("wx0h1c0;wx2h1c0;bn12;bn12;lk99");
        less.night(3021);
        Due.is("gains below 0", less.brigade(0, 5) + less.brigade(1, 5), -198);
        doc.says(28, "A NIGHT by a row: how many there were.");
        ThreeLadders many = small();
        for (int n = 1; n <= 60; n++) {
            Due.is("night", many.night(0), n);
        }
        stands(many, 60, 40, 60, 600);
    }

    private void nightsRefused() {
        doc.says(28, "NONE: no such row.");
        ThreeLadders x = small();
        x.night(0);
        for (int wrong : new int[] {-1, 1, 10, 60, 98, 100, 199, 9999, LEAST, GREATEST}) {
            Due.is("night(" + wrong + ")", x.night(wrong), NONE);
            stands(x, 1, 1, 1, 10);
        }
        Due.is("no front", new ThreeLadders().night(0), NONE);
        Due.is("no front", new ThreeLadders().night(99), NONE);
    }

    /** The next x, reckoned without Java's own going round. */
    private static BigInteger next(BigInteger x) {
        return x.multiply(TIMES).add(AND).mod(ROUND);
    }

    private static int drawOf(BigInteger x, int m) {
        return x.shiftRight(33).mod(BigInteger.valueOf(m)).intValueExact();
    }

    private void draws() {
        doc.says(0, "each BRIGADE by numbers has a draw of 7 times 4: the PLACE is that by 4, cut (6: it STANDS back), "
                + "the WINDOW the rest (if there is no such one, or it does not REACH: it STANDS back)");
        // windows of one, two and three children, from one place aside at most; a fourth window there is not
        String front = "wx0h1c1f60;wx2h1c2f60;wx4h1c3f60;bn2;ls99";
        boolean[] seen = new boolean[28];
        for (long seed = 0; seed < 2000; seed++) {
            int draw = drawOf(next(BigInteger.valueOf(seed)), 28);
            if (!seen[draw]) {
                seen[draw] = true;
                int place = draw / 4;
                int window = draw % 4;
                boolean put = place < 6 && window < 3 && Math.abs(place - 2 * window) <= 1;
                ThreeLadders x = Due.front(front);
                Due.is("drawn(1, " + seed + ")", x.drawn(1, seed), 1);
                Due.is("saved by draw " + draw, x.brigade(0, 4), put ? window + 1 : 0);
                Due.is("gained by draw " + draw, x.brigade(0, 5), put ? 10 * (window + 1) : 99);
            }
        }
        for (int draw = 0; draw < 28; draw++) {
            Due.is("draw " + draw + " was seen", seen[draw], true);
        }
        ThreeLadders four = Due.front("wx0h1c1f60;wx0h1c2f60;wx0h1c3f60;wx0h1c4f60;bn12");
        long seed = 0;
        while (drawOf(next(BigInteger.valueOf(seed)), 28) != 23) {
            seed++;
        }
        four.drawn(1, seed);
        Due.is("place 5, window 3", four.brigade(0, 4), 4);
    }

    private static int drawnRow(ThreeLadders x, BigInteger[] state) {
        int row = 0;
        for (int b = 0; b < x.count(0); b++) {
            state[0] = next(state[0]);
            int draw = drawOf(state[0], 28);
            int put = draw / 4 * 10 + draw % 4;
            row = row * 100 + (x.reaches(b, put) == 1 ? put : 99);
        }
        return row;
    }

    private void drawnRows() {
        doc.says(0, "x, at first the seed, becomes x times 6364136223846793005 and 1442695040888963407 "
                + "(64 bits, going round)");
        long[] seeds = {0, 1, -1, 2, Long.MAX_VALUE, Long.MIN_VALUE, Long.MAX_VALUE - 1, Long.MIN_VALUE + 1,
            1L << 32, 1L << 33, -(1L << 33), 0x7fffffffL, 123456789123456789L, -987654321987654321L};
        for (long seed : seeds) {
            sameByRows(seed, 1);
            sameByRows(seed, 40);
        }
        doc.says(0, "a draw of m: (x shifted right by 33, without sign) modulo m");
        int below = 0;
        for (long seed = 0; seed < 30; seed++) {
            below += next(BigInteger.valueOf(seed)).testBit(63) ? 1 : 0;
            sameByRows(seed, 2);
        }
        Due.is("with the sign and without it", below > 0 && below < 30, true);
        doc.says(29, "DRAWN: how many NIGHTS there were.");
        ThreeLadders x = small();
        x.night(0);
        Due.is("one more", x.drawn(1, 5), 2);
        Due.is("forty more", x.drawn(40, 5), 42);
        Due.is("nights", x.count(4), 42);
        Due.is("that can be undone", x.count(5), 40);
    }

    /** What is drawn is the same as its rows one by one, and can be undone one by one. */
    private static void sameByRows(long seed, int n) {
        String front = "wx0h1c3f9;wx3h2c9f60;wx5h5c2f60;b;ba2n3;bn5p2;ls3k4";
        ThreeLadders drawn = Due.front(front);
        ThreeLadders rows = Due.front(front);
        BigInteger[] state = {BigInteger.valueOf(seed).mod(ROUND)};
        Due.is("drawn(" + n + ", " + seed + ")", drawn.drawn(n, seed), n);
        for (int night = 0; night < n; night++) {
            rows.night(drawnRow(rows, state));
        }
        for (int b = 0; b < 3; b++) {
            Due.is("saved by " + b, drawn.brigade(b, 4), rows.brigade(b, 4));
            Due.is("gains of " + b, drawn.brigade(b, 5), rows.brigade(b, 5));
        }
        for (int left = n - 1; left >= 0; left--) {
            Due.is("undo", drawn.undo(), rows.undo());
            Due.is("saved then", drawn.count(6), rows.count(6));
            Due.is("gains then", drawn.brigade(2, 5), rows.brigade(2, 5));
        }
    }

    private void drawnRefused() {
        doc.says(0, "n NIGHTS (1 .. 40)");
        ThreeLadders x = small();
        Due.is("1", x.drawn(1, 7), 1);
        Due.is("40", x.drawn(40, 7), 41);
        doc.says(29, "out of bounds");
        for (int n : new int[] {0, -1, -40, 41, 42, LEAST, GREATEST}) {
            Due.is("drawn(" + n + ")", x.drawn(n, 7), NONE);
            Due.is("none came", x.count(4), 41);
        }
        doc.says(29, "NONE: no FRONT");
        Due.is("drawn(1)", new ThreeLadders().drawn(1, 7), NONE);
        Due.is("drawn(40)", new ThreeLadders().drawn(40, 7), NONE);
    }

    private void undone() {
        doc.says(0, "(the latest 40 can be UNDONE one by one)");
        ThreeLadders x = small();
        // the n-th night gains n
        for (int n = 1; n <= 45; n++) {
            x.change(0, n);
            x.night(0);
            Due.is("that can be undone", x.count(5), Math.min(n, 40));
        }
        x.change(0, 77);
        for (int left = 44; left >= 5; left--) {
            Due.is("undo", x.undo(), left);
            Due.is("gains", x.brigade(0, 5), left * (left + 1) / 2);
            Due.is("that can be undone", x.count(5), left - 5);
        }
        Due.is("no more", x.undo(), NONE);
        stands(x, 5, 0, 5, 15);
        x.night(0);
        stands(x, 6, 1, 6, 92);
        doc.says(30, "The latest NIGHT is UNDONE: how many there were.");
        Due.is("undo", x.undo(), 5);
        stands(x, 5, 0, 5, 15);
        ThreeLadders y = small();
        y.night(0);
        y.night(99);
        Due.is("undo", y.undo(), 1);
        stands(y, 1, 1, 1, 10);
        Due.is("undo", y.undo(), 0);
        stands(y, 0, 0, 0, 0);
        ThreeLadders fewer = Due.front("wh1c9f60;wx1h1c9f60;wx2h1c9f60;b;b;b");
        fewer.night(1122);
        Due.is("27 of three brigades", fewer.count(6), 27);
        Due.tape(fewer, "wh1;bn1");
        fewer.text(0);
        fewer.night(0);
        Due.is("undo", fewer.undo(), 0);
        stands(fewer, 0, 0, 0, 0);
        ThreeLadders forty = small();
        forty.drawn(40, 3);
        for (int left = 39; left >= 0; left--) {
            Due.is("undo", forty.undo(), left);
        }
        stands(forty, 0, 0, 0, 0);
        ThreeLadders one = small();
        one.night(0);
        one.drawn(40, 3);
        for (int left = 40; left >= 1; left--) {
            Due.is("undo", one.undo(), left);
        }
        Due.is("the first stays", one.undo(), NONE);
        stands(one, 1, 0, 1, 10);
    }

    private void undoRefused() {
        doc.says(30, "NONE: none can be.");
        Due.is("no front", new ThreeLadders().undo(), NONE);
        ThreeLadders x = small();
        Due.is("no night", x.undo(), NONE);
        stands(x, 0, 0, 0, 0);
        x.drawn(40, 1);
        x.night(0);
        int saved = x.count(6);
        for (int n = 0; n < 40; n++) {
            x.undo();
        }
        Due.is("one is left and stays", x.undo(), NONE);
        Due.is("one is left", x.count(4) == 1 && x.count(6) <= saved, true);
        Due.tape(x, "w;b");
        x.night(0);
        x.text(0);
        Due.is("another front", x.undo(), NONE);
    }

    private void images() {
        doc.says(0, "An IMAGE keeps NIGHTS that are put by, ASHES, the LAW, RULES of BRIGADES; BACK: they are so again.");
        ThreeLadders x = Due.front("wh1c2f9;bn1;bn1;lp10s3k2q1");
        Due.addRule(x, "y:1");
        x.night(99);
        x.night(9900);
        x.ash(0, 0, 1);
        x.rule(1, 0);
        int[] then = whole(x);
        Due.is("image", x.image(), 2);
        Due.is("all as it was", whole(x), then);
        for (int time = 0; time < 3; time++) {
            x.undo();
            x.undo();
            x.drawn(3 + 30 * time, time);
            x.ash(0, 0, 0);
            x.rule(1, NONE);
            x.rule(0, 0);
            for (int what = 0; what < 4; what++) {
                x.change(what, 2);
            }
            Due.is("all is other than it was", Arrays.equals(whole(x), then), false);
            Due.is("back", x.back(), 2);
            Due.is("all is so again", whole(x), then);
        }
        Due.is("both can be undone", x.undo() * 10 + x.undo(), 10);
        Due.is("and no more", x.undo(), NONE);
        Due.is("nothing is put by", x.count(6) + x.brigade(0, 5) + x.brigade(1, 5), 0);
        Due.addRule(x, "y:2");
        Due.tape(x, "w~");
        Due.is("back", x.back(), 2);
        Due.is("rules are no part of it", x.count(2), 2);
        Due.is("nor is the tape", x.count(3), 2);
        doc.says(31, "An IMAGE (instead of the one ahead): NIGHTS there were.");
        x.night(9999);
        Due.is("another image", x.image(), 3);
        x.night(9999);
        Due.is("back to it", x.back(), 3);
        Due.is("back to it again", x.back(), 3);
        x.undo();
        x.undo();
        x.undo();
        Due.is("one of no nights", x.image(), 0);
        x.drawn(40, 9);
        doc.says(32, "BACK: NIGHTS there were.");
        Due.is("back to that", x.back(), 0);
        Due.is("no night can be undone", x.undo(), NONE);
        ThreeLadders full = small();
        full.drawn(40, 4);
        full.drawn(5, 4);
        int saved = full.count(6);
        Due.is("an image of 45", full.image(), 45);
        full.drawn(40, 5);
        Due.is("back to 45", full.back(), 45);
        stands(full, 45, 40, saved, full.brigade(0, 5));
        for (int left = 44; left >= 5; left--) {
            Due.is("undo", full.undo(), left);
        }
        Due.is("five stay", full.undo(), NONE);
    }

    private void imageRefused() {
        doc.says(31, "NONE: no FRONT.");
        ThreeLadders x = new ThreeLadders();
        Due.is("image", x.image(), NONE);
        Due.is("there is none", x.back(), NONE);
        Due.tape(x, "w;b");
        x.text(0);
        Due.is("there is none of this front", x.back(), NONE);
        Due.is("image", x.image(), 0);
    }

    private void backRefused() {
        doc.says(32, "NONE: no IMAGE of this FRONT.");
        Due.is("no front", new ThreeLadders().back(), NONE);
        ThreeLadders x = small();
        x.night(0);
        Due.is("no image", x.back(), NONE);
        stands(x, 1, 1, 1, 10);
        x.image();
        Due.tape(x, "w;");
        x.text(0);
        Due.is("the front has not changed", x.back(), 1);
        Due.tape(x, "wh1;bn1");
        x.text(0);
        Due.is("the same text is another front", x.back(), NONE);
        stands(x, 0, 0, 0, 0);
    }

    private void counts() {
        doc.says(33, "0 BRIGADES, 1 WINDOWS, 2 RULES, 3 bytes of the TAPE, 4 NIGHTS there were, 5 that can be UNDONE, "
                + "6 SAVED in all, 7 ASHES.");
        ThreeLadders x = Due.front("wh1c2f60;w;w;w;b;b;b");
        Due.addRule(x, "y:1");
        Due.addRule(x, "y:1");
        x.drawn(40, 1);
        x.drawn(40, 1);
        for (int n = 0; n < 40; n++) {
            x.undo();
        }
        int saved = x.brigade(0, 4) + x.brigade(1, 4) + x.brigade(2, 4);
        x.night(1099);
        x.ash(0, 0, 0);
        Due.tape(x, "abcdefg");
        int[] want = {3, 4, 2, 7, 41, 1, saved + 2, 1};
        for (int what = 0; what < 8; what++) {
            Due.is("count(" + what + ")", x.count(what), want[what]);
        }
        doc.says(33, "HIDDEN for others.");
        for (int wrong : new int[] {-1, 8, 9, LEAST, GREATEST}) {
            Due.is("count(" + wrong + ")", x.count(wrong), HIDDEN);
            Due.is("count(" + wrong + ")", new ThreeLadders().count(wrong), HIDDEN);
        }
    }

    /** All that can be seen of an object of two brigades and one window, or of one without a front. */
    private static int[] whole(ThreeLadders x) {
        List<Integer> seen = new ArrayList<>();
        for (int what = 0; what < 8; what++) {
            seen.add(x.count(what));
        }
        for (int what = 0; what < 4; what++) {
            seen.add(x.law(what));
            seen.add(x.window(0, what));
        }
        for (int b = 0; b < x.count(0); b++) {
            for (int what = 0; what < 6; what++) {
                seen.add(x.brigade(b, what));
            }
        }
        seen.add(x.fault(0));
        seen.add(x.fault(1));
        seen.add(x.choice());
        seen.add(x.rests(NONE));
        seen.add(x.rests(0));
        seen.add(x.loss());
        seen.add(x.laws(0));
        seen.add(x.bribe());
        seen.add(x.most(0));
        seen.add(x.explain(NONE));
        seen.add(x.explain(0));
        seen.add(x.knocked());
        int[] all = new int[seen.size()];
        for (int i = 0; i < all.length; i++) {
            all[i] = seen.get(i);
        }
        return all;
    }

    /** What can be seen only by changing it: the nights one by one, then the image and its nights. */
    private static int[] hidden(ThreeLadders x) {
        int[] seen = new int[200];
        int n = 0;
        for (int i = 0; i < 45; i++) {
            seen[n++] = x.undo();
            seen[n++] = x.count(0) > 0 ? x.brigade(0, 5) : 0;
        }
        seen[n++] = x.back();
        seen[n++] = x.count(7);
        seen[n++] = x.law(0);
        for (int i = 0; i < 10; i++) {
            seen[n++] = x.undo();
        }
        return seen;
    }

    /** Full of all that can be full: rules, ashes, the tape nearly. */
    private static ThreeLadders full() {
        ThreeLadders x = Due.front("wx1h2c2f9;bn2;bn3;lp10s3k2");
        for (int n = 0; n < 4; n++) {
            Due.addRule(x, "y:c-" + n);
        }
        x.rule(0, 1);
        for (int n = 0; n < 9; n++) {
            x.ash(0, 1, 1);
        }
        x.night(1099);
        x.drawn(3, 8);
        x.image();
        x.change(0, 20);
        x.ash(0, 5, 0);
        x.rule(1, 2);
        x.drawn(40, 8);
        Due.tape(x, "w;b;".repeat(38) + "w;b    ");
        return x;
    }

    private static List<Consumer<ThreeLadders>> refusedAlways() {
        return List.of(
                x -> Due.is("end", x.end(x.count(3) + 1), false), x -> Due.is("end", x.end(-1), false),
                x -> Due.is("text(0)", x.text(0), NONE), x -> Due.is("text(1)", x.text(1), NONE),
                x -> Due.is("text(2)", x.text(2), NONE), x -> Due.is("fault(2)", x.fault(2), -2),
                x -> Due.noSuchBrigade(x, 2, 0), x -> Due.noSuchBrigade(x, 0, 6),
                x -> Due.is("window", x.window(1, 0), NONE), x -> Due.is("law", x.law(4), NONE),
                x -> Due.is("change", x.change(0, 100), false), x -> Due.is("change", x.change(4, 0), false),
                x -> Due.is("change", x.change(3, 3), false), x -> Due.is("rule", x.rule(0, 4), false),
                x -> Due.is("rule", x.rule(2, 0), false), x -> Due.is("rule", x.rule(0, -2), false),
                x -> Due.is("reaches", x.reaches(0, 60), NONE), x -> Due.is("told", x.told(0, 0, 0), HIDDEN),
                x -> Due.is("all", x.all(100, 0), HIDDEN), x -> Due.is("child", x.child(9999, 0, 0), HIDDEN),
                x -> Due.is("best", x.best(0, 0, 0), HIDDEN), x -> Due.is("rests", x.rests(-2), NONE),
                x -> Due.is("most", x.most(2), NONE), x -> Due.is("laws", x.laws(2), NONE),
                x -> Due.is("ash", x.ash(0, 0, 1), NONE), x -> Due.is("ash", x.ash(1, 0, 1), NONE),
                x -> Due.is("explain", x.explain(-2), NONE), x -> Due.is("joined", x.joined(0, 0), NONE),
                x -> Due.is("reach", x.reach(2), NONE), x -> Due.is("alone", x.alone(0, 2), NONE),
                x -> Due.is("night", x.night(0), NONE), x -> Due.is("night", x.night(-1), NONE),
                x -> Due.is("drawn", x.drawn(0, 1), NONE), x -> Due.is("drawn", x.drawn(41, 1), NONE),
                x -> Due.is("count", x.count(8), HIDDEN));
    }

    private static void unchanged(Consumer<ThreeLadders> call, ThreeLadders x, ThreeLadders twin) {
        call.accept(x);
        Due.is("all that can be seen", whole(x), whole(twin));
        Due.is("all that can be undone", hidden(x), hidden(twin));
    }

    private void refusedChangesNothing() {
        doc.says(0, "What is refused answers as told and changes nothing.");
        for (Consumer<ThreeLadders> call : refusedAlways()) {
            unchanged(call, full(), full());
            unchanged(call, new ThreeLadders(), new ThreeLadders());
        }
        unchanged(x -> Due.is("feed", x.feed('a', 'b', 0, 0, 0), NONE), full(), full());
        List<Consumer<ThreeLadders>> withoutFront = List.of(
                x -> Due.is("image", x.image(), NONE), x -> Due.is("back", x.back(), NONE),
                x -> Due.is("undo", x.undo(), NONE), x -> Due.is("drawn", x.drawn(1, 1), NONE),
                x -> Due.is("change", x.change(0, 1), false), x -> Due.is("rule", x.rule(0, NONE), false));
        for (Consumer<ThreeLadders> call : withoutFront) {
            unchanged(call, new ThreeLadders(), new ThreeLadders());
        }
    }
}

import java.util.ArrayList;
import java.util.HashMap;
import java.util.List;
import java.util.Map;
import java.util.Random;

/**
 * What looks at all rows, on fronts with up to three brigades and all their rows: each row is played once by
 * PlainLadders, then rests, losses, laws, bribes and explanations are looked for in the plainest way.
 */
public final class AllRowsTest {
    private static final int NONE = ThreeLadders.NONE;
    private static final int HIDDEN = ThreeLadders.HIDDEN;
    private static final int RUNS = 36;
    private static final int MOST_LOOKED_AT = 40;

    private final Random draws;
    private final String text;
    private final PlainLadders y = new PlainLadders();
    private final ThreeLadders x;
    private final List<Integer> rows;
    private final List<PlainLadders.Played> played = new ArrayList<>();

    private AllRowsTest(int run) {
        draws = new Random(run);
        text = frontText(run % 2 == 0 ? 3 : 1 + draw(3));
        x = Due.front(text);
        y.tape = text;
        y.text(0);
        rows = y.rows();
        for (int row : rows) {
            played.add(y.new Played(row));
        }
    }

    private int draw(int n) {
        return draws.nextInt(n);
    }

    private String frontText(int brigades) {
        StringBuilder made = new StringBuilder();
        for (int windows = 1 + draw(4); windows > 0; windows--) {
            made.append("wx").append(draw(6)).append("h").append(1 + draw(5)).append("c").append(draw(10))
                    .append("f").append(1 + draw(60)).append(";");
        }
        for (int b = 0; b < brigades; b++) {
            made.append("ba").append(draw(draw(2) == 0 ? 4 : 31)).append("n").append(2 + draw(11))
                    .append("p").append(1 + draw(draw(2) == 0 ? 2 : 5)).append(";");
        }
        return made.append("lp").append(draw(100)).append("s").append(draw(draw(2) == 0 ? 100 : 20))
                .append("k").append(draw(draw(2) == 0 ? 100 : 20)).append("q").append(draw(3)).toString();
    }

    private void same(String call, long got, long want) {
        Due.is("'" + text + "': " + call, got, want);
    }

    /** Places in the list of all rows. */
    private List<Integer> restsBy(int[] law) {
        List<Map<Integer, Integer>> most = new ArrayList<>();
        for (int b = 0; b < y.brigades.length; b++) {
            most.add(new HashMap<>());
            for (int i = 0; i < rows.size(); i++) {
                most.get(b).merge(y.with(rows.get(i), b, 0), played.get(i).gain(b, law), Math::max);
            }
        }
        List<Integer> rests = new ArrayList<>();
        for (int i = 0; i < rows.size(); i++) {
            boolean rest = true;
            for (int b = 0; b < y.brigades.length; b++) {
                rest &= played.get(i).gain(b, law) == most.get(b).get(y.with(rows.get(i), b, 0));
            }
            if (rest) {
                rests.add(i);
            }
        }
        return rests;
    }

    private int mostIn(List<Integer> some) {
        int most = NONE;
        for (int i : some) {
            most = Math.max(most, played.get(i).all());
        }
        return most;
    }

    private int most() {
        int found = 0;
        for (int i = 0; i < rows.size(); i++) {
            found = played.get(i).all() > played.get(found).all() ? i : found;
        }
        same("most(0)", x.most(0), rows.get(found));
        same("most(1)", x.most(1), played.get(found).all());
        return played.get(found).all();
    }

    private void restsAndLoss(int most) {
        List<Integer> rests = restsBy(y.law);
        same("rests(NONE)", x.rests(NONE), rests.size());
        for (int n = 0; n < MOST_LOOKED_AT && n < rests.size(); n++) {
            int i = n < MOST_LOOKED_AT / 2 ? n : draw(rests.size());
            same("rests(" + i + ")", x.rests(i), rows.get(rests.get(i)));
        }
        same("rests behind the last", x.rests(rests.size()), NONE);
        int worst = most;
        for (int i : rests) {
            worst = Math.min(worst, played.get(i).all());
        }
        same("loss()", x.loss(), rests.isEmpty() ? HIDDEN : most - worst);
    }

    private void laws() {
        int which = NONE;
        int many = NONE;
        for (int sharing = 0; sharing < 3; sharing++) {
            int saved = mostIn(restsBy(new int[] {y.law[0], y.law[1], y.law[2], sharing}));
            which = saved > many ? sharing : which;
            many = Math.max(saved, many);
        }
        same("laws(0)", x.laws(0), which);
        same("laws(1)", x.laws(1), many);
    }

    private void bribe(int most) {
        int least = NONE;
        for (int pay = 0; pay <= 99 && least == NONE; pay++) {
            if (mostIn(restsBy(new int[] {y.law[0], pay, y.law[2], y.law[3]})) == most) {
                least = pay;
            }
        }
        same("bribe()", x.bribe(), least);
    }

    private boolean agrees(PlainLadders.Played one, int sort, int which, int v) {
        if (sort == 1) {
            return one.savedAt[which] == v;
        }
        boolean feet = false;
        for (int b = 0; b < y.brigades.length; b++) {
            feet |= !one.back[b] && one.place[b] == which;
        }
        return feet == (v == 1);
    }

    /** Each ash is of a row that there is, but for some: so rows are left over for long. */
    private void ashes() {
        PlainLadders.Played model = played.get(draw(rows.size()));
        List<Integer> left = new ArrayList<>();
        for (int i = 0; i < rows.size(); i++) {
            left.add(i);
        }
        for (int n = 1; n <= 4; n++) {
            int sort = draw(2);
            int which = draw(sort == 0 ? 6 : y.windows.length);
            int v = sort == 1 ? model.savedAt[which] : agrees(model, 0, which, 1) ? 1 : 0;
            v = draw(12) == 0 ? draw(2) : v;
            same("ash(" + sort + ", " + which + ", " + v + ")", x.ash(sort, which, v), n);
            int told = v;
            left.removeIf(i -> !agrees(played.get(i), sort, which, told));
            explained(left);
        }
    }

    private void explained(List<Integer> left) {
        same("explain(NONE)", x.explain(NONE), left.size());
        for (int n = 0; n < MOST_LOOKED_AT / 2 && n < left.size(); n++) {
            int i = draw(left.size());
            same("explain(" + i + ")", x.explain(i), rows.get(left.get(i)));
        }
        same("explain behind the last", x.explain(left.size()), NONE);
        int bits = 0;
        for (int b = 0; b < y.brigades.length; b++) {
            boolean surely = !left.isEmpty();
            for (int i : left) {
                surely &= played.get(i).shake[b] > 0;
            }
            bits += surely ? 1 << b : 0;
        }
        same("knocked()", x.knocked(), bits);
    }

    private void run() {
        int most = most();
        restsAndLoss(most);
        laws();
        bribe(most);
        ashes();
        for (int what = 0; what < 4; what++) {
            int v = draw(what == 3 ? 3 : 60);
            same("change(" + what + ", " + v + ")", x.change(what, v) ? 1 : 0, y.change(what, v) ? 1 : 0);
        }
        restsAndLoss(most);
        laws();
        bribe(most);
    }

    public static void main(String[] args) {
        for (int run = 0; run < RUNS; run++) {
            new AllRowsTest(run).run();
        }
        Due.end("AllRowsTest");
    }
}

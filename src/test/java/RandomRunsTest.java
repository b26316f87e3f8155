import java.util.NoSuchElementException;
import java.util.Random;

/** Runs of calls by draws, each answered by the class and by PlainLadders. */
public final class RandomRunsTest {
    private static final int RUNS = 120;
    private static final int CALLS = 512;

    private final Random draws;
    private final int run;
    private final ThreeLadders x = new ThreeLadders();
    private final PlainLadders y = new PlainLadders();
    private final boolean heavy;

    private RandomRunsTest(int run) {
        this.run = run;
        draws = new Random(run);
        // three brigades with all rows played anew take long: few calls that look at all rows then
        heavy = run % 4 == 0;
    }

    private int draw(int n) {
        return draws.nextInt(n);
    }

    private String number(int most) {
        int value = draw(most + 1);
        return (draw(9) == 0 && value < 10 ? "0" : "") + value;
    }

    private String blank() {
        return draw(25) == 0 ? " ".repeat(1 + draw(2)) : "";
    }

    private String items(String letters, int[] most) {
        StringBuilder made = new StringBuilder();
        for (int i = 0; i < letters.length(); i++) {
            int at = draw(2) == 0 ? i : (i + 1) % letters.length();
            if (draw(3) > 0 && made.indexOf(letters.substring(at, at + 1)) < 0) {
                made.append(letters.charAt(at)).append(blank()).append(number(most[at])).append(blank());
            }
        }
        return made.toString();
    }

    private String frontText() {
        int windows = 1 + draw(draw(3) == 0 ? 4 : 2);
        int brigades = 1 + draw(heavy ? 3 : 2);
        boolean law = draw(2) == 0;
        StringBuilder made = new StringBuilder();
        while (windows + brigades > 0 || law) {
            String clause;
            int kind = draw(3);
            if (kind == 0 && windows > 0) {
                windows--;
                clause = "w" + blank() + items("xhcf", new int[] {5, 6, 9, draw(2) == 0 ? 60 : 25});
            } else if (kind == 1 && brigades > 0) {
                brigades--;
                clause = "b" + items("anp", new int[] {draw(2) == 0 ? 30 : 5, 12, draw(2) == 0 ? 5 : 2});
            } else if (kind == 2 && law) {
                law = false;
                clause = "l" + items("pskq", new int[] {99, 99, 40, 2});
            } else {
                continue;
            }
            made.append(made.length() == 0 ? "" : ";").append(blank()).append(clause);
        }
        return made.toString();
    }

    private String sum(int depth) {
        StringBuilder made = new StringBuilder(atom(depth));
        for (int n = draw(4) - 1; n > 0; n--) {
            made.append(blank()).append("+-*/".charAt(draw(4))).append(blank()).append(atom(depth));
        }
        return made.toString();
    }

    private String atom(int depth) {
        int kind = draw(8);
        if (kind == 0 && depth < 6) {
            return "[" + sum(depth + 1) + "]";
        }
        if (kind < 3) {
            return number(draw(3) == 0 ? 9999 : 12);
        }
        return String.valueOf("dhcfok".charAt(draw(6)));
    }

    private String condition(int depth) {
        StringBuilder made = new StringBuilder(unit(depth));
        for (int n = draw(4) - 1; n > 0; n--) {
            made.append(blank()).append(draw(2) == 0 ? "|" : "&").append(unit(depth));
        }
        return made.toString();
    }

    private String unit(int depth) {
        int kind = draw(6);
        if (kind == 0 && depth < 6) {
            return "!" + blank() + unit(depth + 1);
        }
        if (kind == 1 && depth < 6) {
            return "(" + condition(depth + 1) + ")";
        }
        return sum(depth) + "=<>".charAt(draw(3)) + sum(depth);
    }

    private String ruleText() {
        StringBuilder made = new StringBuilder();
        for (int n = 1 + draw(3); n > 0; n--) {
            made.append(made.length() == 0 ? "" : ";").append(blank()).append("y").append(blank()).append(":");
            if (draw(3) > 0) {
                made.append(condition(0)).append("?");
            }
            made.append(sum(0));
        }
        return made.toString();
    }

    private String deepText() {
        StringBuilder made = new StringBuilder("y:");
        for (int n = 4 + draw(5); n > 0; n--) {
            made.append("!(![(!".charAt(draw(6)));
        }
        return made.append("d=1]])))?k").toString();
    }

    private String spoilt(String text) {
        StringBuilder made = new StringBuilder(text);
        for (int n = draw(3); n >= 0 && made.length() > 0; n--) {
            int at = draw(made.length());
            char sign = "wbl;xhcfanpskqy:?|&!()=<>+-*/do[]0123456789 ~".charAt(draw(45));
            int kind = draw(4);
            if (kind == 0) {
                made.setCharAt(at, sign);
            } else if (kind == 1) {
                made.insert(at, sign);
            } else if (kind == 2) {
                made.deleteCharAt(at);
            } else {
                made.setLength(at);
            }
        }
        return made.toString();
    }

    private void same(String call, long got, long want) {
        Due.is("run " + run + ": " + call, got, want);
    }

    private int[] five(String text, int from) {
        int[] five = new int[5];
        int filled = 0;
        for (int i = from; i < text.length() && filled < 20; i++) {
            five[filled / 4] |= (text.charAt(i) & 255) << (24 - 8 * (filled % 4));
            filled++;
        }
        return five;
    }

    private void tape(String text) {
        if (draw(20) > 0) {
            same("end(0)", x.end(0) ? 1 : 0, y.end(0) ? 1 : 0);
        }
        for (int from = 0; from < text.length(); from += 20) {
            int[] f = five(text, from);
            same("feed", x.feed(f[0], f[1], f[2], f[3], f[4]), y.feed(f));
        }
        if (draw(10) == 0) {
            int n = draw(text.length() + 3) - 1;
            same("end(" + n + ")", x.end(n) ? 1 : 0, y.end(n) ? 1 : 0);
        }
        for (int sort = -1; sort < 3; sort++) {
            same("fault(" + sort + ") of '" + y.tape + "'", x.fault(sort), y.fault(sort));
        }
    }

    private void take(int sort) {
        same("text(" + sort + ") of '" + y.tape + "'", x.text(sort), y.text(sort));
    }

    private int row() {
        int row = 0;
        for (int b = 0; b < Math.max(1, y.brigades.length); b++) {
            int put = 10 * draw(6) + draw(Math.max(1, y.windows.length));
            if (b < y.brigades.length && !y.putsOf(b).contains(put) && draw(30) > 0) {
                put = y.putsOf(b).get(draw(y.putsOf(b).size()));
            }
            row = row * 100 + (draw(12) == 0 ? 99 : put);
        }
        return draw(60) == 0 ? row + 1000000 : draw(60) == 0 ? -row : row;
    }

    private int near(int n) {
        return draw(n + 2) - (draw(4) == 0 ? 1 : 0);
    }

    private void lookAtRows() {
        int row = row();
        int b = near(y.brigades.length);
        int what = near(3);
        same("told(" + row + ", " + b + ", " + what + ")", x.told(row, b, what), y.told(row, b, what));
        what = draw(4) == 0 ? 9 : near(4);
        same("all(" + row + ", " + what + ")", x.all(row, what), y.all(row, what));
        int n = near(4);
        what = near(2);
        same("child(" + row + ", " + n + ", " + what + ")", x.child(row, n, what), y.child(row, n, what));
        what = near(1);
        same("best(" + row + ", " + b + ", " + what + ")", x.best(row, b, what), y.best(row, b, what));
    }

    private void lookAtAllRows() {
        if (heavy && y.brigades.length == 3 && (y.rows().size() > 1500 || draw(12) > 0)) {
            return;
        }
        int i = draw(3) == 0 ? draw(40) : near(2) - 1;
        switch (draw(7)) {
            case 0: same("rests(" + i + ")", x.rests(i), y.rests(i)); break;
            case 1: same("most", x.most(i), y.most(i)); break;
            case 2: same("loss()", x.loss(), y.loss()); break;
            case 3: same("laws(" + i + ")", x.laws(i), y.laws(i)); break;
            case 4: same("explain(" + i + ")", x.explain(i), y.explain(i)); break;
            case 5: same("knocked()", x.knocked(), y.knocked()); break;
            default:
                if (y.brigades.length < 3 && y.rows().size() < 200) {
                    same("bribe()", x.bribe(), y.bribe());
                }
        }
    }

    private void lookAround() {
        for (int what = -1; what < 9; what++) {
            same("count(" + what + ")", x.count(what), y.count(what));
        }
        int a = near(4);
        int b = near(3);
        same("window(" + a + ", " + b + ")", x.window(a, b), y.window(a, b));
        same("law(" + a + ")", x.law(a), y.law(a));
        same("joined(" + a + ", " + b + ")", x.joined(a, b), y.joined(a, b));
        same("reach(" + a + ")", x.reach(a), y.reach(a));
        int put = draw(5) == 0 ? 99 : draw(5) == 0 ? near(110) : 10 * draw(6) + draw(4);
        same("reaches(" + b + ", " + put + ")", x.reaches(b, put), y.reaches(b, put));
        int what = near(1);
        same("alone(" + b + ", " + what + ")", x.alone(b, what), y.alone(b, what));
        what = near(5);
        Integer due = y.brigade(b, what);
        long got = Long.MIN_VALUE;
        try {
            got = x.brigade(b, what);
        } catch (NoSuchElementException e) {
            got = Long.MAX_VALUE;
        }
        same("brigade(" + b + ", " + what + ")", got, due == null ? Long.MAX_VALUE : due);
    }

    private void alter() {
        int a = near(3);
        int b = near(3);
        switch (draw(10)) {
            case 0: {
                int v = draw(3) == 0 ? near(2) : near(99);
                same("change(" + a + ", " + v + ")", x.change(a, v) ? 1 : 0, y.change(a, v) ? 1 : 0);
                break;
            }
            case 1: {
                int rule = near(3);
                same("rule(" + b + ", " + rule + ")", x.rule(b, rule) ? 1 : 0, y.rule(b, rule) ? 1 : 0);
                break;
            }
            case 2: {
                int sort = draw(10) == 0 ? near(2) : draw(2);
                int v = sort == 0 ? near(1) : draw(3) == 0 ? near(9) : draw(3);
                int which = sort == 0 ? near(5) : a;
                if (draw(3) == 0) {
                    same("ash(" + sort + ", " + which + ", " + v + ")", x.ash(sort, which, v), y.ash(sort, which, v));
                }
                break;
            }
            case 3:
            case 4: {
                int row = row();
                same("night(" + row + ")", x.night(row), y.night(row));
                break;
            }
            case 5: {
                int n = draw(6) == 0 ? near(41) : 1 + draw(6);
                long seed = draws.nextLong();
                same("drawn(" + n + ", " + seed + ")", x.drawn(n, seed), y.drawn(n, seed));
                break;
            }
            case 6:
                for (int n = draw(8) == 0 ? 45 : 2; n > 0; n--) {
                    same("undo()", x.undo(), y.undo());
                }
                break;
            case 7:
                if (draw(3) == 0) {
                    same("image()", x.image(), y.image());
                }
                break;
            case 8:
                if (draw(3) == 0) {
                    same("back()", x.back(), y.back());
                }
                break;
            default:
                same("choice()", x.choice(), y.choice());
        }
    }

    private void oneStep() {
        int kind = draw(40);
        if (kind == 0 || (kind < 20 && !y.hasFront())) {
            tape(draw(3) == 0 ? spoilt(frontText()) : frontText());
            take(draw(20) == 0 ? near(2) : 0);
        } else if (kind < 3) {
            tape(draw(3) == 0 ? spoilt(ruleText()) : draw(3) == 0 ? deepText() : ruleText());
            take(draw(20) == 0 ? near(2) : 1);
        } else if (kind < 12) {
            lookAtRows();
        } else if (kind < 16) {
            lookAtAllRows();
        } else if (kind < 22) {
            lookAround();
        } else {
            alter();
        }
    }

    public static void main(String[] args) {
        for (int run = 0; run < RUNS; run++) {
            RandomRunsTest one = new RandomRunsTest(run);
            for (int call = 0; call < CALLS / 4; call++) {
                one.oneStep();
            }
        }
        Due.end("RandomRunsTest");
    }
}

import java.util.ArrayList;
import java.util.Arrays;
import java.util.List;

/**
 * The document once more, as plainly as it goes and in another way than the class: minutes are gone
 * through one by one, every row is played anew for every question, nothing is remembered.
 */
final class PlainLadders {
    static final int NONE = -1;
    static final int HIDDEN = -1000000;

    String tape = "";
    int[][] windows = {};
    int[][] brigades = {};
    final List<String> rules = new ArrayList<>();
    int[] law = {};
    int[] ruleOf = {};
    List<int[]> ashes = new ArrayList<>();
    /** Each: saved by each brigade, then gains. */
    List<int[]> nights = new ArrayList<>();
    int undoable;
    PlainLadders kept;

    boolean hasFront() {
        return brigades.length > 0;
    }

    // texts

    int feed(int... five) {
        StringBuilder more = new StringBuilder(tape);
        for (int four : five) {
            for (int i = 3; i >= 0; i--) {
                int sign = (four >> (8 * i)) & 255;
                if (sign != 0) {
                    more.append((char) sign);
                }
            }
        }
        if (more.length() > 160) {
            return NONE;
        }
        tape = more.toString();
        return tape.length();
    }

    boolean end(int n) {
        if (n < 0 || n > tape.length()) {
            return false;
        }
        tape = tape.substring(0, n);
        return true;
    }

    int fault(int sort) {
        return sort == 0 ? frontFault(tape) : sort == 1 ? RuleGrammar.fault(tape) : -2;
    }

    static final String[] LETTERS = {"xhcf", "anp", "pskq"};
    static final int[][] LEAST = {{0, 1, 0, 1}, {0, 1, 1}, {0, 0, 0, 0}};
    static final int[][] MOST = {{5, 9, 9, 60}, {30, 12, 5}, {99, 99, 99, 2}};
    static final int[][] UNTOLD = {{0, 3, 1, 30}, {0, 6, 1}, {10, 0, 0, 0}};
    static final int[] CLAUSES = {4, 3, 1};

    /** By sorts of clauses (w, b, l), as far as frontFault came. */
    private final List<List<int[]>> read = new ArrayList<>();

    private int frontFault(String text) {
        read.clear();
        for (int k = 0; k < 3; k++) {
            read.add(new ArrayList<>());
        }
        int sort = -1;
        String unused = "";
        char state = 'c';
        int item = -1;
        for (int i = 0; i < text.length(); i++) {
            char sign = text.charAt(i);
            if (sign == ' ') {
                continue;
            }
            if (state == 'c') {
                sort = "wbl".indexOf(sign);
                if (sort < 0 || read.get(sort).size() == CLAUSES[sort]) {
                    return i;
                }
                read.get(sort).add(UNTOLD[sort].clone());
                unused = LETTERS[sort];
                state = 'i';
            } else if (state == 'i') {
                if (sign == ';') {
                    state = 'c';
                } else if (unused.indexOf(sign) >= 0) {
                    unused = unused.replace(sign, '_');
                    item = LETTERS[sort].indexOf(sign);
                    state = 'n';
                } else {
                    return i;
                }
            } else {
                int to = i;
                while (to < text.length() && Character.isDigit(text.charAt(to)) && to < i + 3) {
                    to++;
                }
                if (to == i || to == i + 3) {
                    return to == i ? i : i + 2;
                }
                int value = Integer.parseInt(text.substring(i, to));
                if (value < LEAST[sort][item] || value > MOST[sort][item]) {
                    return to - 1;
                }
                List<int[]> clauses = read.get(sort);
                clauses.get(clauses.size() - 1)[item] = value;
                i = to - 1;
                state = 'i';
            }
        }
        boolean whole = state == 'i' && !read.get(0).isEmpty() && !read.get(1).isEmpty();
        return whole ? NONE : text.length();
    }

    int text(int sort) {
        if (sort < 0 || sort > 1 || fault(sort) != NONE || (sort == 1 && rules.size() == 4)) {
            return NONE;
        }
        String was = tape;
        tape = "";
        if (sort == 1) {
            rules.add(was.replace(" ", ""));
            return rules.size() - 1;
        }
        frontFault(was);
        windows = read.get(0).toArray(new int[0][]);
        brigades = read.get(1).toArray(new int[0][]);
        law = read.get(2).isEmpty() ? UNTOLD[2].clone() : read.get(2).get(0);
        ruleOf = new int[brigades.length];
        Arrays.fill(ruleOf, NONE);
        ashes.clear();
        nights.clear();
        undoable = 0;
        kept = null;
        return brigades.length;
    }

    // reckoning a rule, its text being without fault and without blanks

    private String reckoned;
    private int spot;
    private int[] letterValues;

    private int worth(String rule, int... values) {
        letterValues = values;
        for (String clause : rule.split(";")) {
            reckoned = clause.substring(2);
            int mark = reckoned.indexOf('?');
            spot = 0;
            if (mark < 0 || condition()) {
                spot = mark + 1;
                return sum();
            }
        }
        return 0;
    }

    private char peek() {
        return spot < reckoned.length() ? reckoned.charAt(spot) : 0;
    }

    private boolean condition() {
        boolean holds = truth();
        while (peek() == '|') {
            spot++;
            holds = truth() || holds;
        }
        return holds;
    }

    private boolean truth() {
        boolean holds = unit();
        while (peek() == '&') {
            spot++;
            holds = unit() && holds;
        }
        return holds;
    }

    private boolean unit() {
        if (peek() == '!') {
            spot++;
            return !unit();
        }
        if (peek() == '(') {
            spot++;
            boolean holds = condition();
            spot++;
            return holds;
        }
        int left = sum();
        char sign = peek();
        spot++;
        int right = sum();
        return sign == '=' ? left == right : sign == '<' ? left < right : left > right;
    }

    private int sum() {
        long value = term();
        while (peek() == '+' || peek() == '-') {
            char sign = peek();
            spot++;
            int other = term();
            value = cut(sign == '+' ? value + other : value - other);
        }
        return (int) value;
    }

    private int term() {
        long value = atom();
        while (peek() == '*' || peek() == '/') {
            char sign = peek();
            spot++;
            int other = atom();
            value = cut(sign == '*' ? value * other : other == 0 ? 0 : value / other);
        }
        return (int) value;
    }

    private static long cut(long value) {
        return value > 1000000 ? 1000000 : value < -1000000 ? -1000000 : value;
    }

    private int atom() {
        if (peek() == '[') {
            spot++;
            int value = sum();
            spot++;
            return value;
        }
        int letter = "dhcfok".indexOf(peek());
        if (letter >= 0) {
            spot++;
            return letterValues[letter];
        }
        int value = 0;
        while (Character.isDigit(peek())) {
            value = value * 10 + peek() - '0';
            spot++;
        }
        return value;
    }

    // rows

    boolean gets(int length, int place, int window) {
        int apart = Math.abs(place - windows[window][0]);
        return apart * apart + windows[window][1] * windows[window][1] <= length * length;
    }

    List<Integer> putsOf(int brigade) {
        List<Integer> puts = new ArrayList<>();
        for (int place = 0; place < 6; place++) {
            for (int window = 0; window < windows.length; window++) {
                if (gets(brigades[brigade][1], place, window)) {
                    puts.add(10 * place + window);
                }
            }
        }
        puts.add(99);
        return puts;
    }

    List<Integer> rows() {
        List<Integer> rows = new ArrayList<>(List.of(0));
        for (int b = 0; b < brigades.length; b++) {
            List<Integer> longer = new ArrayList<>();
            for (int row : rows) {
                for (int put : putsOf(b)) {
                    longer.add(row * 100 + put);
                }
            }
            rows = longer;
        }
        return rows;
    }

    int weight(int brigade) {
        int weight = 1;
        for (int b = brigades.length - 1; b > brigade; b--) {
            weight *= 100;
        }
        return weight;
    }

    int putIn(int row, int brigade) {
        return row / weight(brigade) % 100;
    }

    int with(int row, int brigade, int put) {
        return row + (put - putIn(row, brigade)) * weight(brigade);
    }

    boolean isRow(int row) {
        if (!hasFront() || row < 0 || row >= 100 * weight(0)) {
            return false;
        }
        for (int b = 0; b < brigades.length; b++) {
            if (!putsOf(b).contains(putIn(row, b))) {
                return false;
            }
        }
        return true;
    }

    /** What comes of a row. */
    final class Played {
        final int n = brigades.length;
        final boolean[] back = new boolean[n];
        final int[] place = new int[n];
        final int[] at = new int[n];
        final int[] shake = new int[n];
        final int[] climb = new int[n];
        final int[] saved = new int[n];
        final int[] savedAt = new int[windows.length];
        final int[] first = new int[windows.length];
        /** Minute, by whom, from where. */
        final List<int[]> children = new ArrayList<>();

        Played(int row) {
            Arrays.fill(first, NONE);
            for (int b = 0; b < n; b++) {
                back[b] = putIn(row, b) == 99;
                place[b] = putIn(row, b) / 10;
                at[b] = putIn(row, b) % 10;
            }
            for (int spot = 0; spot < 6; spot++) {
                int holder = NONE;
                for (int minute = 0; minute <= 30; minute++) {
                    for (int b = 0; b < n; b++) {
                        if (putIn(row, b) != 99 && place[b] == spot && brigades[b][0] == minute) {
                            back[b] = holder != NONE;
                            holder = holder == NONE ? b : holder;
                        }
                    }
                }
            }
            for (int b = 0; b < n; b++) {
                for (int c = 0; c < n; c++) {
                    if (!back[b] && !back[c]) {
                        int heads = Integer.compare(windows[at[b]][0], windows[at[c]][0]);
                        int feet = Integer.compare(place[b], place[c]);
                        shake[b] += heads != 0 && feet == -heads ? 1 : 0;
                    }
                }
                climb[b] = back[b] ? NONE : brigades[b][2] * windows[at[b]][1] * (1 + shake[b]);
            }
            for (int minute = 0; minute < 60; minute++) {
                for (int b = 0; b < n; b++) {
                    if (!back[b] && visits(b, minute) && minute < windows[at[b]][3]
                            && savedAt[at[b]] < windows[at[b]][2]) {
                        first[at[b]] = first[at[b]] == NONE ? b : first[at[b]];
                        savedAt[at[b]]++;
                        saved[b]++;
                        children.add(new int[] {minute, b, at[b]});
                    }
                }
            }
        }

        private boolean visits(int b, int minute) {
            for (int k = 1; k <= 60; k++) {
                if (minute == brigades[b][0] + 1 + (2 * k - 1) * climb[b]) {
                    return true;
                }
            }
            return false;
        }

        int all() {
            return children.size();
        }

        int gain(int b, int[] by) {
            if (back[b]) {
                return by[1];
            }
            int workers = 0;
            for (int c = 0; c < n; c++) {
                workers += back[c] ? 0 : 1;
            }
            int earned = by[0] * saved[b];
            if (by[3] == 1) {
                earned = by[0] * all() / workers;
            } else if (by[3] == 2 && first[at[b]] != b) {
                earned = 0;
            }
            return earned - by[2] * shake[b];
        }
    }

    int told(int row, int brigade, int what) {
        if (brigade < 0 || brigade >= brigades.length || what < 0 || what > 3 || !isRow(row)) {
            return HIDDEN;
        }
        Played p = new Played(row);
        return what == 0 ? p.saved[brigade] : what == 1 ? p.gain(brigade, law)
                : p.back[brigade] ? NONE : what == 2 ? p.shake[brigade] : p.climb[brigade];
    }

    int all(int row, int what) {
        if (!isRow(row) || what < 0 || (what > windows.length && what != 9)) {
            return HIDDEN;
        }
        Played p = new Played(row);
        int bits = 0;
        for (int b = 0; b < brigades.length; b++) {
            bits += p.back[b] ? 1 << b : 0;
        }
        return what == 0 ? p.all() : what == 9 ? bits : p.savedAt[what - 1];
    }

    int child(int row, int n, int what) {
        if (!isRow(row) || what < 0 || what > 2) {
            return HIDDEN;
        }
        List<int[]> children = new Played(row).children;
        return n < 0 || n >= children.size() ? HIDDEN : children.get(n)[what];
    }

    int best(int row, int brigade, int what) {
        if (brigade < 0 || brigade >= brigades.length || what < 0 || what > 1 || !isRow(row)) {
            return HIDDEN;
        }
        int[] found = best(row, brigade, law);
        return found[what];
    }

    private int[] best(int row, int brigade, int[] by) {
        int[] found = null;
        for (int put : putsOf(brigade)) {
            int gain = new Played(with(row, brigade, put)).gain(brigade, by);
            if (found == null || gain > found[1]) {
                found = new int[] {put, gain};
            }
        }
        return found;
    }

    private List<Integer> restsBy(int[] by) {
        List<Integer> rests = new ArrayList<>();
        for (int row : rows()) {
            boolean rest = true;
            Played p = new Played(row);
            for (int b = 0; b < brigades.length && rest; b++) {
                rest = p.gain(b, by) >= best(row, b, by)[1];
            }
            if (rest) {
                rests.add(row);
            }
        }
        return rests;
    }

    private int pick(List<Integer> rows, int i) {
        return i == NONE ? rows.size() : i >= 0 && i < rows.size() ? rows.get(i) : NONE;
    }

    int rests(int i) {
        return hasFront() ? pick(restsBy(law), i) : NONE;
    }

    int most(int what) {
        if (!hasFront() || what < 0 || what > 1) {
            return NONE;
        }
        int[] found = {NONE, NONE};
        for (int row : rows()) {
            int saved = new Played(row).all();
            if (saved > found[1]) {
                found = new int[] {row, saved};
            }
        }
        return found[what];
    }

    int loss() {
        int worst = Integer.MAX_VALUE;
        if (hasFront()) {
            for (int row : restsBy(law)) {
                worst = Math.min(worst, new Played(row).all());
            }
        }
        return worst == Integer.MAX_VALUE ? HIDDEN : most(1) - worst;
    }

    int laws(int what) {
        if (!hasFront() || what < 0 || what > 1) {
            return NONE;
        }
        int[] found = {NONE, NONE};
        for (int sharing = 0; sharing < 3; sharing++) {
            for (int row : restsBy(new int[] {law[0], law[1], law[2], sharing})) {
                int saved = new Played(row).all();
                if (saved > found[1]) {
                    found = new int[] {sharing, saved};
                }
            }
        }
        return found[what];
    }

    int bribe() {
        if (!hasFront()) {
            return NONE;
        }
        int most = most(1);
        for (int pay = 0; pay <= 99; pay++) {
            for (int row : restsBy(new int[] {law[0], pay, law[2], law[3]})) {
                if (new Played(row).all() == most) {
                    return pay;
                }
            }
        }
        return NONE;
    }

    int choice() {
        if (!hasFront()) {
            return NONE;
        }
        List<Integer> chosen = new ArrayList<>();
        int row = 0;
        for (int b = 0; b < brigades.length; b++) {
            int greatest = 0;
            int taken = 99;
            for (int put : putsOf(b)) {
                if (put == 99 || ruleOf[b] == NONE) {
                    continue;
                }
                int o = 0;
                int k = 0;
                for (int ahead : chosen) {
                    o += ahead != 99 && ahead % 10 == put % 10 ? 1 : 0;
                    k += ahead != 99 && ahead / 10 == put / 10 ? 1 : 0;
                }
                int[] w = windows[put % 10];
                int worth = worth(rules.get(ruleOf[b]), Math.abs(put / 10 - w[0]), w[1], w[2], w[3], o, k);
                if (worth > greatest) {
                    greatest = worth;
                    taken = put;
                }
            }
            chosen.add(taken);
            row = row * 100 + taken;
        }
        return row;
    }

    int ash(int sort, int which, int v) {
        boolean fits = sort == 0 ? which >= 0 && which < 6 && (v == 0 || v == 1)
                : sort == 1 && which >= 0 && which < windows.length && v >= 0 && v <= 9;
        if (!hasFront() || !fits || ashes.size() == 10) {
            return NONE;
        }
        ashes.add(new int[] {sort, which, v});
        return ashes.size();
    }

    private List<Integer> explaining() {
        List<Integer> found = new ArrayList<>();
        for (int row : rows()) {
            Played p = new Played(row);
            int[] feet = new int[6];
            for (int b = 0; b < brigades.length; b++) {
                if (!p.back[b]) {
                    feet[p.place[b]] = 1;
                }
            }
            boolean fits = true;
            for (int[] ash : ashes) {
                fits &= ash[2] == (ash[0] == 0 ? feet[ash[1]] : p.savedAt[ash[1]]);
            }
            if (fits) {
                found.add(row);
            }
        }
        return found;
    }

    int explain(int i) {
        return hasFront() ? pick(explaining(), i) : NONE;
    }

    int knocked() {
        if (!hasFront()) {
            return NONE;
        }
        List<Integer> rows = explaining();
        int bits = 0;
        for (int b = 0; b < brigades.length; b++) {
            boolean surely = !rows.isEmpty();
            for (int row : rows) {
                surely &= new Played(row).shake[b] > 0;
            }
            bits += surely ? 1 << b : 0;
        }
        return bits;
    }

    private int within(int length) {
        int bits = 0;
        for (int w = 0; w < windows.length; w++) {
            boolean some = false;
            for (int place = 0; place < 6; place++) {
                some |= gets(length, place, w);
            }
            bits += some ? 1 << w : 0;
        }
        return bits;
    }

    private boolean isBrigade(int b) {
        return b >= 0 && b < brigades.length;
    }

    int joined(int one, int other) {
        return isBrigade(one) && isBrigade(other) && one != other
                ? within(brigades[one][1] + brigades[other][1] - 1) : NONE;
    }

    int reach(int b) {
        return isBrigade(b) ? within(brigades[b][1]) : NONE;
    }

    int reaches(int b, int put) {
        if (!isBrigade(b) || (put != 99 && (put < 0 || put > 59 || put % 10 >= windows.length))) {
            return NONE;
        }
        return putsOf(b).contains(put) ? 1 : 0;
    }

    int alone(int b, int what) {
        if (!isBrigade(b) || what < 0 || what > 1) {
            return NONE;
        }
        int[] found = {NONE, NONE};
        for (int put : putsOf(b)) {
            int saved = new Played(with(100 * weight(0) - 1, b, put)).all();
            if (saved > found[0]) {
                found = new int[] {saved, put};
            }
        }
        return found[what];
    }

    private void play(int row) {
        Played p = new Played(row);
        int[] night = new int[6];
        for (int b = 0; b < brigades.length; b++) {
            night[b] = p.saved[b];
            night[3 + b] = p.gain(b, law);
        }
        nights.add(night);
        undoable = Math.min(40, undoable + 1);
    }

    int night(int row) {
        if (!isRow(row)) {
            return NONE;
        }
        play(row);
        return nights.size();
    }

    int drawn(int n, long seed) {
        if (!hasFront() || n < 1 || n > 40) {
            return NONE;
        }
        long x = seed;
        for (int i = 0; i < n; i++) {
            int row = 0;
            for (int b = 0; b < brigades.length; b++) {
                x = x * 6364136223846793005L + 1442695040888963407L;
                int draw = (int) ((x >>> 33) % 28);
                int put = draw / 4 * 10 + draw % 4;
                row = row * 100 + (putsOf(b).contains(put) ? put : 99);
            }
            play(row);
        }
        return nights.size();
    }

    int undo() {
        if (undoable == 0) {
            return NONE;
        }
        undoable--;
        nights.remove(nights.size() - 1);
        return nights.size();
    }

    private void copyInto(PlainLadders other) {
        other.nights = new ArrayList<>(nights);
        other.undoable = undoable;
        other.ashes = new ArrayList<>(ashes);
        other.law = law.clone();
        other.ruleOf = ruleOf.clone();
    }

    int image() {
        if (!hasFront()) {
            return NONE;
        }
        kept = new PlainLadders();
        copyInto(kept);
        return nights.size();
    }

    int back() {
        if (kept == null) {
            return NONE;
        }
        kept.copyInto(this);
        return nights.size();
    }

    private int inNights(int column) {
        int total = 0;
        for (int[] night : nights) {
            total += night[column];
        }
        return total;
    }

    /** Null: it throws. */
    Integer brigade(int b, int what) {
        if (!isBrigade(b) || what < 0 || what > 5) {
            return null;
        }
        return what < 3 ? brigades[b][what] : what == 3 ? ruleOf[b] : inNights(what == 4 ? b : 3 + b);
    }

    int window(int w, int what) {
        return w >= 0 && w < windows.length && what >= 0 && what < 4 ? windows[w][what] : NONE;
    }

    int law(int what) {
        return hasFront() && what >= 0 && what < 4 ? law[what] : NONE;
    }

    boolean change(int what, int v) {
        if (!hasFront() || what < 0 || what > 3 || v < 0 || v > (what == 3 ? 2 : 99)) {
            return false;
        }
        law[what] = v;
        return true;
    }

    boolean rule(int b, int rule) {
        if (!isBrigade(b) || rule < NONE || rule >= rules.size()) {
            return false;
        }
        ruleOf[b] = rule;
        return true;
    }

    int count(int what) {
        switch (what) {
            case 0: return brigades.length;
            case 1: return windows.length;
            case 2: return rules.size();
            case 3: return tape.length();
            case 4: return nights.size();
            case 5: return undoable;
            case 6: return inNights(0) + inNights(1) + inNights(2);
            case 7: return ashes.size();
            default: return HIDDEN;
        }
    }
}

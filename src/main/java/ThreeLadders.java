import java.util.NoSuchElementException;

public final class ThreeLadders {
    public static final int NONE = -1;
    public static final int HIDDEN = -1000000;

    private static final int NO_SUCH_SORT = -2;
    private static final int MOST_SIGNS = 160;
    private static final int MOST_WINDOWS = 4;
    private static final int MOST_BRIGADES = 3;
    private static final int MOST_RULES = 4;
    private static final int MOST_ASHES = 10;
    private static final int MOST_UNDONE = 40;
    private static final int MOST_DRAWN = 40;
    private static final int MOST_NESTED = 6;
    private static final int MOST_PAY = 99;
    /** Four windows of nine children each. */
    private static final int MOST_CHILDREN = 36;
    private static final int PLACES = 6;
    /** From each place to each window, and standing back. */
    private static final int MOST_PUTS = 25;
    private static final int STAND_BACK = 99;

    private static final int[] WINDOW_LETTERS = {'x', 'h', 'c', 'f'};
    private static final int[] WINDOW_LEAST = {0, 1, 0, 1};
    private static final int[] WINDOW_MOST = {5, 9, 9, 60};
    private static final int[] WINDOW_UNTOLD = {0, 3, 1, 30};
    private static final int COLUMN = 0;
    private static final int HEIGHT = 1;
    private static final int CHILDREN = 2;
    private static final int FIRE = 3;

    private static final int[] BRIGADE_LETTERS = {'a', 'n', 'p'};
    private static final int[] BRIGADE_LEAST = {0, 1, 1};
    private static final int[] BRIGADE_MOST = {30, 12, 5};
    private static final int[] BRIGADE_UNTOLD = {0, 6, 1};
    private static final int ARRIVES = 0;
    private static final int LENGTH = 1;
    private static final int PACE = 2;

    private static final int[] LAW_LETTERS = {'p', 's', 'k', 'q'};
    private static final int[] LAW_LEAST = {0, 0, 0, 0};
    private static final int[] LAW_MOST = {99, 99, 99, 2};
    private static final int[] LAW_UNTOLD = {10, 0, 0, 0};
    private static final int PAY = 0;
    private static final int STANDING = 1;
    private static final int FINE = 2;
    private static final int SHARING = 3;
    private static final int SHARINGS = 3;
    private static final int SHARED_BY_ALL = 1;
    private static final int SHARED_TO_FIRST = 2;

    private static final int[] RULE_LETTERS = {'d', 'h', 'c', 'f', 'o', 'k'};
    private static final int[] COMPARISONS = {'=', '<', '>'};

    private final Tape tape = new Tape();
    private final Front front = new Front();
    private final FrontReader frontReader = new FrontReader(tape);
    private final RuleReader ruleReader = new RuleReader(tape);
    private final Code[] rules = new Code[MOST_RULES];
    private int ruleCount;
    private final Season season = new Season();
    private final Season kept = new Season();
    private boolean hasKept;
    private final Play play = new Play(front);
    private final Rows rows = new Rows(front, play);
    private final Rests restful = new Rests(rows, season);
    private final Explained explained = new Explained(rows, season);
    private final int[] puts = new int[MOST_BRIGADES];
    private final int[] letters = new int[RULE_LETTERS.length];

    public ThreeLadders() {
    }

    public int feed(int a, int b, int c, int d, int e) {
        int more = Tape.signsIn(a) + Tape.signsIn(b) + Tape.signsIn(c) + Tape.signsIn(d) + Tape.signsIn(e);
        if (tape.size + more > MOST_SIGNS) {
            return NONE;
        }
        tape.append(a);
        tape.append(b);
        tape.append(c);
        tape.append(d);
        tape.append(e);
        return tape.size;
    }

    public boolean end(int n) {
        if (n < 0 || n > tape.size) {
            return false;
        }
        tape.size = n;
        return true;
    }

    public int fault(int sort) {
        if (sort == 0) {
            return frontReader.firstWrong();
        }
        if (sort == 1) {
            return ruleReader.firstWrong();
        }
        return NO_SUCH_SORT;
    }

    public int text(int sort) {
        if (sort == 0) {
            return takeFront();
        }
        if (sort == 1) {
            return takeRule();
        }
        return NONE;
    }

    public int brigade(int brigade, int what) throws NoSuchElementException {
        if (!isBrigade(brigade) || what < 0 || what > 5) {
            throw new NoSuchElementException();
        }
        switch (what) {
            case 3:
                return season.ruleOf[brigade];
            case 4:
                return season.saved[brigade];
            case 5:
                return season.gained[brigade];
            default:
                return front.brigades[brigade][what];
        }
    }

    public int window(int window, int what) {
        if (!isWindow(window) || what < 0 || what > FIRE) {
            return NONE;
        }
        return front.windows[window][what];
    }

    public int law(int what) {
        if (!front.stands() || what < 0 || what > SHARING) {
            return NONE;
        }
        return season.law[what];
    }

    public boolean change(int what, int v) {
        if (!front.stands() || what < 0 || what > SHARING) {
            return false;
        }
        if (v < LAW_LEAST[what] || v > LAW_MOST[what]) {
            return false;
        }
        season.law[what] = v;
        restful.forget();
        return true;
    }

    public boolean rule(int brigade, int rule) {
        if (!isBrigade(brigade) || rule < NONE || rule >= ruleCount) {
            return false;
        }
        season.ruleOf[brigade] = rule;
        return true;
    }

    public int reaches(int brigade, int put) {
        if (!isBrigade(brigade)) {
            return NONE;
        }
        if (put != STAND_BACK && !front.isLadderPut(put)) {
            return NONE;
        }
        return front.mayPut(brigade, put) ? 1 : 0;
    }

    public int told(int row, int brigade, int what) {
        if (!isBrigade(brigade) || what < 0 || what > 3 || !playRow(row)) {
            return HIDDEN;
        }
        switch (what) {
            case 0:
                return play.saved[brigade];
            case 1:
                return gainOf(brigade);
            case 2:
                return play.isBack(brigade) ? NONE : play.shake[brigade];
            default:
                return play.isBack(brigade) ? NONE : play.climb[brigade];
        }
    }

    public int all(int row, int what) {
        boolean ofWindow = isWindow(what - 1);
        if (what != 0 && what != 9 && !ofWindow) {
            return HIDDEN;
        }
        if (!playRow(row)) {
            return HIDDEN;
        }
        if (what == 0) {
            return play.taken;
        }
        return ofWindow ? play.savedAt(what - 1) : play.backs();
    }

    public int child(int row, int n, int what) {
        if (what < 0 || what > 2 || !playRow(row) || n < 0 || n >= play.taken) {
            return HIDDEN;
        }
        switch (what) {
            case 0:
                return play.takenMinute[n];
            case 1:
                return play.takenBy[n];
            default:
                return play.takenFrom[n];
        }
    }

    public int best(int row, int brigade, int what) {
        if (!isBrigade(brigade) || what < 0 || what > 1 || !splitRow(row)) {
            return HIDDEN;
        }
        int bestPut = STAND_BACK;
        int bestGain = season.law[STANDING];
        boolean any = false;
        for (int put = 0; put <= STAND_BACK; put++) {
            if (front.mayPut(brigade, put)) {
                puts[brigade] = put;
                play.run(puts);
                int gain = gainOf(brigade);
                if (!any || gain > bestGain) {
                    bestPut = put;
                    bestGain = gain;
                    any = true;
                }
            }
        }
        return what == 0 ? bestPut : bestGain;
    }

    public int rests(int i) {
        if (!front.stands()) {
            return NONE;
        }
        restful.findAll();
        return rows.markedRow(Rows.REST, i);
    }

    public int most(int what) {
        if (!front.stands() || what < 0 || what > 1) {
            return NONE;
        }
        rows.findAll();
        return what == 0 ? rows.rowAt(rows.most) : rows.mostSaved();
    }

    public int loss() {
        if (!front.stands()) {
            return HIDDEN;
        }
        int worst = restful.worstSaved();
        return worst == NONE ? HIDDEN : rows.mostSaved() - worst;
    }

    public int laws(int what) {
        if (!front.stands() || what < 0 || what > 1) {
            return NONE;
        }
        restful.compareSharings();
        return what == 0 ? restful.bestSharing : restful.bestSaved;
    }

    public int bribe() {
        if (!front.stands()) {
            return NONE;
        }
        return restful.leastBribe();
    }

    public int choice() {
        if (!front.stands()) {
            return NONE;
        }
        int row = 0;
        for (int brigade = 0; brigade < front.brigadeCount; brigade++) {
            puts[brigade] = chosenPut(brigade);
            row = row * 100 + puts[brigade];
        }
        return row;
    }

    public int ash(int sort, int which, int v) {
        boolean ofPlace = sort == 0 && which >= 0 && which < PLACES && v >= 0 && v <= 1;
        boolean ofWindow = sort == 1 && isWindow(which) && v >= 0 && v <= 9;
        if (!front.stands() || (!ofPlace && !ofWindow) || season.ashCount >= MOST_ASHES) {
            return NONE;
        }
        season.addAsh(sort, which, v);
        explained.forget();
        return season.ashCount;
    }

    public int explain(int i) {
        if (!front.stands()) {
            return NONE;
        }
        explained.findAll();
        return rows.markedRow(Rows.EXPLAINS, i);
    }

    public int knocked() {
        if (!front.stands()) {
            return NONE;
        }
        explained.findAll();
        return explained.knockers;
    }

    public int joined(int one, int other) {
        if (!isBrigade(one) || !isBrigade(other) || one == other) {
            return NONE;
        }
        return front.windowsWithin(front.brigades[one][LENGTH] + front.brigades[other][LENGTH] - 1);
    }

    public int reach(int brigade) {
        if (!isBrigade(brigade)) {
            return NONE;
        }
        return front.windowsWithin(front.brigades[brigade][LENGTH]);
    }

    public int alone(int brigade, int what) {
        if (!isBrigade(brigade) || what < 0 || what > 1) {
            return NONE;
        }
        for (int b = 0; b < MOST_BRIGADES; b++) {
            puts[b] = STAND_BACK;
        }
        int bestPut = STAND_BACK;
        int bestSaved = 0;
        for (int put = 0; put < STAND_BACK; put++) {
            if (front.mayPut(brigade, put)) {
                puts[brigade] = put;
                play.run(puts);
                if (bestPut == STAND_BACK || play.taken > bestSaved) {
                    bestPut = put;
                    bestSaved = play.taken;
                }
            }
        }
        return what == 0 ? bestSaved : bestPut;
    }

    public int night(int row) {
        if (!playRow(row)) {
            return NONE;
        }
        putBy();
        return season.nights;
    }

    public int drawn(int n, long seed) {
        if (!front.stands() || n < 1 || n > MOST_DRAWN) {
            return NONE;
        }
        long x = seed;
        for (int night = 0; night < n; night++) {
            for (int brigade = 0; brigade < front.brigadeCount; brigade++) {
                x = x * 6364136223846793005L + 1442695040888963407L;
                puts[brigade] = drawnPut(brigade, (int) ((x >>> 33) % 28));
            }
            play.run(puts);
            putBy();
        }
        return season.nights;
    }

    public int undo() {
        if (season.undoable <= 0) {
            return NONE;
        }
        season.takeBack();
        return season.nights;
    }

    public int image() {
        if (!front.stands()) {
            return NONE;
        }
        kept.copyFrom(season);
        hasKept = true;
        return season.nights;
    }

    public int back() {
        if (!hasKept) {
            return NONE;
        }
        season.copyFrom(kept);
        restful.forget();
        explained.forget();
        return season.nights;
    }

    public int count(int what) {
        switch (what) {
            case 0:
                return front.brigadeCount;
            case 1:
                return front.windowCount;
            case 2:
                return ruleCount;
            case 3:
                return tape.size;
            case 4:
                return season.nights;
            case 5:
                return season.undoable;
            case 6:
                return season.savedInAll();
            case 7:
                return season.ashCount;
            default:
                return HIDDEN;
        }
    }

    private int takeFront() {
        if (frontReader.firstWrong() != NONE) {
            return NONE;
        }
        front.copyFrom(frontReader.draft);
        tape.size = 0;
        season.begin(front.law);
        hasKept = false;
        rows.forget();
        restful.forget();
        explained.forget();
        return front.brigadeCount;
    }

    private int takeRule() {
        if (ruleCount >= MOST_RULES || ruleReader.firstWrong() != NONE) {
            return NONE;
        }
        rules[ruleCount] = ruleReader.draft.copy();
        ruleCount++;
        tape.size = 0;
        return ruleCount - 1;
    }

    private boolean isBrigade(int brigade) {
        return brigade >= 0 && brigade < front.brigadeCount;
    }

    private boolean isWindow(int window) {
        return window >= 0 && window < front.windowCount;
    }

    /** Whether there is such a row; the puts are its digits then. */
    private boolean splitRow(int row) {
        if (!front.stands() || row < 0) {
            return false;
        }
        int rest = row;
        for (int brigade = front.brigadeCount - 1; brigade >= 0; brigade--) {
            puts[brigade] = rest % 100;
            rest = rest / 100;
            if (!front.mayPut(brigade, puts[brigade])) {
                return false;
            }
        }
        return rest == 0;
    }

    private boolean playRow(int row) {
        if (!splitRow(row)) {
            return false;
        }
        play.run(puts);
        return true;
    }

    private int gainOf(int brigade) {
        return Play.gain(play.outcome(), brigade, season.law, season.law[SHARING]);
    }

    private void putBy() {
        int outcome = play.outcome();
        season.openNight();
        for (int brigade = 0; brigade < front.brigadeCount; brigade++) {
            season.addToNight(brigade, play.saved[brigade],
                    Play.gain(outcome, brigade, season.law, season.law[SHARING]));
        }
    }

    private int drawnPut(int brigade, int draw) {
        int place = draw / 4;
        int window = draw % 4;
        if (place >= PLACES || !isWindow(window)) {
            return STAND_BACK;
        }
        int put = 10 * place + window;
        return front.mayPut(brigade, put) ? put : STAND_BACK;
    }

    /** By its rule, the puts of the brigades ahead standing in the puts already. */
    private int chosenPut(int brigade) {
        int number = season.ruleOf[brigade];
        Code rule = number >= 0 && number < ruleCount ? rules[number] : null;
        if (rule == null) {
            return STAND_BACK;
        }
        int chosen = STAND_BACK;
        int greatest = 0;
        for (int put = 0; put < STAND_BACK; put++) {
            if (front.mayPut(brigade, put)) {
                setLetters(brigade, put);
                int worth = rule.worth(letters);
                if (worth > greatest) {
                    chosen = put;
                    greatest = worth;
                }
            }
        }
        return chosen;
    }

    private void setLetters(int brigade, int put) {
        int place = put / 10;
        int window = put % 10;
        int atWindow = 0;
        int onPlace = 0;
        for (int ahead = 0; ahead < brigade; ahead++) {
            if (puts[ahead] != STAND_BACK) {
                atWindow += puts[ahead] % 10 == window ? 1 : 0;
                onPlace += puts[ahead] / 10 == place ? 1 : 0;
            }
        }
        letters[0] = Math.abs(place - front.windows[window][COLUMN]);
        letters[1] = front.windows[window][HEIGHT];
        letters[2] = front.windows[window][CHILDREN];
        letters[3] = front.windows[window][FIRE];
        letters[4] = atWindow;
        letters[5] = onPlace;
    }

    /** The bytes that were fed and are no text yet. */
    private static final class Tape {
        final int[] signs = new int[MOST_SIGNS];
        int size;

        static int signsIn(int four) {
            int signs = 0;
            for (int shift = 24; shift >= 0; shift -= 8) {
                if (((four >>> shift) & 255) != 0) {
                    signs++;
                }
            }
            return signs;
        }

        void append(int four) {
            for (int shift = 24; shift >= 0; shift -= 8) {
                int sign = (four >>> shift) & 255;
                if (sign != 0 && size < signs.length) {
                    signs[size] = sign;
                    size++;
                }
            }
        }
    }

    /** Windows and brigades as told, the law as it was told at first. */
    private static final class Front {
        final int[][] windows = new int[MOST_WINDOWS][WINDOW_LETTERS.length];
        final int[][] brigades = new int[MOST_BRIGADES][BRIGADE_LETTERS.length];
        final int[] law = new int[LAW_LETTERS.length];
        int windowCount;
        int brigadeCount;

        /** No text is a front without a brigade, so one tells that there is a front. */
        boolean stands() {
            return brigadeCount > 0;
        }

        void clear() {
            windowCount = 0;
            brigadeCount = 0;
            System.arraycopy(LAW_UNTOLD, 0, law, 0, law.length);
        }

        void copyFrom(Front other) {
            windowCount = other.windowCount;
            brigadeCount = other.brigadeCount;
            for (int w = 0; w < MOST_WINDOWS; w++) {
                System.arraycopy(other.windows[w], 0, windows[w], 0, WINDOW_LETTERS.length);
            }
            for (int b = 0; b < MOST_BRIGADES; b++) {
                System.arraycopy(other.brigades[b], 0, brigades[b], 0, BRIGADE_LETTERS.length);
            }
            System.arraycopy(other.law, 0, law, 0, law.length);
        }

        /** Whether a number is a place and a window that there is, be it reached or not. */
        boolean isLadderPut(int put) {
            return put >= 0 && put / 10 < PLACES && put % 10 < windowCount;
        }

        boolean mayPut(int brigade, int put) {
            if (put == STAND_BACK) {
                return true;
            }
            return isLadderPut(put) && spans(brigades[brigade][LENGTH], put / 10, put % 10);
        }

        private boolean spans(int length, int place, int window) {
            int apart = place - windows[window][COLUMN];
            int height = windows[window][HEIGHT];
            return apart * apart + height * height <= length * length;
        }

        /** As bits, what a ladder of a length gets to from some place. */
        int windowsWithin(int length) {
            int bits = 0;
            for (int window = 0; window < windowCount; window++) {
                for (int place = 0; place < PLACES; place++) {
                    if (spans(length, place, window)) {
                        bits |= 1 << window;
                    }
                }
            }
            return bits;
        }
    }

    /** What reading fronts and reading rules have in common. */
    private abstract static class Reader {
        /** No byte of 0 is ever on the tape. */
        static final int NO_SIGN = 0;

        final Tape tape;
        int at;
        int wrong;

        Reader(Tape tape) {
            this.tape = tape;
        }

        void begin() {
            at = 0;
            wrong = NONE;
        }

        boolean fine() {
            return wrong == NONE;
        }

        /** Only the first wrong byte counts. */
        void refuse(int where) {
            if (wrong == NONE) {
                wrong = where;
            }
        }

        /** Goes on to the next sign that is no blank. */
        int look() {
            while (at < tape.size && tape.signs[at] == ' ') {
                at++;
            }
            return at < tape.size ? tape.signs[at] : NO_SIGN;
        }

        int here() {
            return at >= 0 && at < tape.size ? tape.signs[at] : NO_SIGN;
        }

        void expect(int sign) {
            if (look() == sign) {
                at++;
            } else {
                refuse(at);
            }
        }

        /** A digit too many is wrong itself, even where the number was out of bounds ahead of it. */
        int number(int mostDigits) {
            if (!isDigit(look())) {
                refuse(at);
                return 0;
            }
            int value = 0;
            for (int digits = 0; digits < mostDigits && isDigit(here()); digits++) {
                value = value * 10 + (here() - '0');
                at++;
            }
            if (isDigit(here())) {
                refuse(at);
            }
            return value;
        }

        static boolean isDigit(int sign) {
            return sign >= '0' && sign <= '9';
        }

        static int placeIn(int[] signs, int sign) {
            for (int i = 0; i < signs.length; i++) {
                if (signs[i] == sign) {
                    return i;
                }
            }
            return NONE;
        }
    }

    private static final class FrontReader extends Reader {
        /** One more than there can be: the ninth is refused as it begins. */
        private static final int CLAUSES_LOOKED_AT = 9;

        final Front draft = new Front();
        private boolean lawTold;

        FrontReader(Tape tape) {
            super(tape);
        }

        int firstWrong() {
            begin();
            draft.clear();
            lawTold = false;
            for (int n = 0; n < CLAUSES_LOOKED_AT && fine(); n++) {
                readClause();
                if (look() == NO_SIGN) {
                    break;
                }
                expect(';');
            }
            if (draft.windowCount == 0 || draft.brigadeCount == 0) {
                refuse(tape.size);
            }
            return wrong;
        }

        private void readClause() {
            int sign = look();
            if (sign == 'w' && draft.windowCount < MOST_WINDOWS) {
                int[] window = draft.windows[draft.windowCount];
                draft.windowCount++;
                System.arraycopy(WINDOW_UNTOLD, 0, window, 0, window.length);
                readItems(WINDOW_LETTERS, WINDOW_LEAST, WINDOW_MOST, window);
            } else if (sign == 'b' && draft.brigadeCount < MOST_BRIGADES) {
                int[] brigade = draft.brigades[draft.brigadeCount];
                draft.brigadeCount++;
                System.arraycopy(BRIGADE_UNTOLD, 0, brigade, 0, brigade.length);
                readItems(BRIGADE_LETTERS, BRIGADE_LEAST, BRIGADE_MOST, brigade);
            } else if (sign == 'l' && !lawTold) {
                lawTold = true;
                readItems(LAW_LETTERS, LAW_LEAST, LAW_MOST, draft.law);
            } else {
                refuse(at);
            }
        }

        private void readItems(int[] itemLetters, int[] least, int[] most, int[] values) {
            at++;
            int told = 0;
            for (int n = 0; n <= itemLetters.length && fine(); n++) {
                int item = placeIn(itemLetters, look());
                if (item == NONE) {
                    return;
                }
                if ((told & (1 << item)) != 0) {
                    refuse(at);
                    return;
                }
                told |= 1 << item;
                at++;
                values[item] = number(2);
                if (values[item] < least[item] || values[item] > most[item]) {
                    refuse(at - 1);
                }
            }
        }
    }

    /** A rule in the order in which it is reckoned, each sign behind what it joins. */
    private static final class Code {
        static final int ADD = -1;
        static final int LESS = -2;
        static final int TIMES = -3;
        static final int BY = -4;
        /** Of the comparisons each next one is one less. */
        static final int LIKE = -5;
        static final int BELOW = -6;
        static final int ABOVE = -7;
        static final int NOT = -8;
        static final int AND = -9;
        static final int OR = -10;
        /** Ends a condition: if it does not hold, the next clause is looked at. */
        static final int THEN = -11;
        /** Ends a clause. */
        static final int DONE = -12;
        /** The first letter; each other one is one less. */
        static final int LETTER = -13;
        private static final int BOUND = 1000000;
        /** At six brackets within one another some twenty numbers wait at once. */
        private static final int WAITING = 64;

        final int[] steps;
        int size;
        private final int[] stack = new int[WAITING];
        private int top;

        Code(int room) {
            steps = new int[Math.max(room, 0)];
        }

        void append(int step) {
            if (size < steps.length) {
                steps[size] = step;
                size++;
            }
        }

        Code copy() {
            Code made = new Code(size);
            System.arraycopy(steps, 0, made.steps, 0, size);
            made.size = size;
            return made;
        }

        int worth(int[] letters) {
            top = 0;
            for (int at = 0; at < size; at++) {
                int step = steps[at];
                if (step == DONE) {
                    return pop();
                }
                if (step >= 0) {
                    push(step);
                } else if (step <= LETTER) {
                    push(LETTER - step < letters.length ? letters[LETTER - step] : 0);
                } else if (step == NOT) {
                    push(1 - pop());
                } else if (step != THEN) {
                    int right = pop();
                    int left = pop();
                    push(within(joinedBy(step, left, right)));
                } else if (pop() == 0) {
                    at = clauseEnd(at);
                }
            }
            return 0;
        }

        private int clauseEnd(int from) {
            for (int at = from; at < size; at++) {
                if (steps[at] == DONE) {
                    return at;
                }
            }
            return size;
        }

        private void push(int value) {
            if (top < stack.length) {
                stack[top] = value;
                top++;
            }
        }

        private int pop() {
            if (top <= 0) {
                return 0;
            }
            top--;
            return stack[top];
        }

        private static long joinedBy(int step, int left, int right) {
            switch (step) {
                case ADD:
                    return left + right;
                case LESS:
                    return left - right;
                case TIMES:
                    return (long) left * right;
                case BY:
                    return right == 0 ? 0 : left / right;
                case LIKE:
                    return left == right ? 1 : 0;
                case BELOW:
                    return left < right ? 1 : 0;
                case ABOVE:
                    return left > right ? 1 : 0;
                case AND:
                    return left & right;
                default:
                    return left | right;
            }
        }

        private static int within(long value) {
            return (int) Math.max(-BOUND, Math.min(BOUND, value));
        }
    }

    private static final class RuleReader extends Reader {
        /** Each byte gives one step at most, and the end of the text one more. */
        final Code draft = new Code(MOST_SIGNS + 1);

        RuleReader(Tape tape) {
            super(tape);
        }

        int firstWrong() {
            begin();
            draft.size = 0;
            for (int n = 0; n <= MOST_SIGNS && fine(); n++) {
                readClause();
                if (look() == NO_SIGN) {
                    break;
                }
                expect(';');
            }
            return wrong;
        }

        private void readClause() {
            expect('y');
            expect(':');
            int sign = look();
            boolean sumFirst = sign != '!' && sign != '(';
            if (sumFirst) {
                readSum(0);
                sign = look();
            }
            // a sum at the head is the clause's own, unless something is compared with it
            if (!sumFirst || placeIn(COMPARISONS, sign) != NONE) {
                readCondition(0, sumFirst);
                expect('?');
                draft.append(Code.THEN);
                readSum(0);
            }
            draft.append(Code.DONE);
        }

        private void readCondition(int depth, boolean sumRead) {
            readTruth(depth, sumRead);
            for (int n = 0; n < MOST_SIGNS && fine() && look() == '|'; n++) {
                at++;
                readTruth(depth, false);
                draft.append(Code.OR);
            }
        }

        private void readTruth(int depth, boolean sumRead) {
            readUnit(depth, sumRead);
            for (int n = 0; n < MOST_SIGNS && fine() && look() == '&'; n++) {
                at++;
                readUnit(depth, false);
                draft.append(Code.AND);
            }
        }

        private void readUnit(int depth, boolean sumRead) {
            int sign = sumRead ? NO_SIGN : look();
            if (sign == '!') {
                if (mayNest(depth)) {
                    readUnit(depth + 1, false);
                    draft.append(Code.NOT);
                }
            } else if (sign == '(') {
                if (mayNest(depth)) {
                    readCondition(depth + 1, false);
                    expect(')');
                }
            } else {
                if (!sumRead) {
                    readSum(depth);
                }
                int compared = placeIn(COMPARISONS, look());
                if (!fine() || compared == NONE) {
                    refuse(at);
                    return;
                }
                at++;
                readSum(depth);
                draft.append(Code.LIKE - compared);
            }
        }

        private void readSum(int depth) {
            readTerm(depth);
            for (int n = 0; n < MOST_SIGNS && fine(); n++) {
                int sign = look();
                if (sign != '+' && sign != '-') {
                    return;
                }
                at++;
                readTerm(depth);
                draft.append(sign == '+' ? Code.ADD : Code.LESS);
            }
        }

        private void readTerm(int depth) {
            readAtom(depth);
            for (int n = 0; n < MOST_SIGNS && fine(); n++) {
                int sign = look();
                if (sign != '*' && sign != '/') {
                    return;
                }
                at++;
                readAtom(depth);
                draft.append(sign == '*' ? Code.TIMES : Code.BY);
            }
        }

        private void readAtom(int depth) {
            if (!fine()) {
                return;
            }
            int sign = look();
            int letter = placeIn(RULE_LETTERS, sign);
            if (letter != NONE) {
                at++;
                draft.append(Code.LETTER - letter);
            } else if (sign == '[') {
                if (mayNest(depth)) {
                    readSum(depth + 1);
                    expect(']');
                }
            } else {
                draft.append(number(4));
            }
        }

        /** Goes past a sign that holds others within it, unless it is one too deep. */
        private boolean mayNest(int depth) {
            if (!fine() || depth >= MOST_NESTED) {
                refuse(at);
                return false;
            }
            at++;
            return true;
        }
    }

    /** One row played: feet settled, ladders shaken, children taken by minutes. */
    private static final class Play {
        /** An outcome has eight bits of each brigade: four of saved, two of shake, these two. */
        private static final int FIRST_BIT = 64;
        private static final int BACK_BIT = 128;
        private static final int ALL_BACK_BITS = BACK_BIT | (BACK_BIT << 8) | (BACK_BIT << 16);
        /** Behind every fire. */
        private static final int NEVER = 1000;

        private final Front front;
        private final int[] place = new int[MOST_BRIGADES];
        private final int[] window = new int[MOST_BRIGADES];
        private final int[] next = new int[MOST_BRIGADES];
        private final int[] left = new int[MOST_WINDOWS];
        private final int[] firstAt = new int[MOST_WINDOWS];
        final int[] shake = new int[MOST_BRIGADES];
        final int[] climb = new int[MOST_BRIGADES];
        final int[] saved = new int[MOST_BRIGADES];
        final int[] takenMinute = new int[MOST_CHILDREN];
        final int[] takenBy = new int[MOST_CHILDREN];
        final int[] takenFrom = new int[MOST_CHILDREN];
        int taken;

        Play(Front front) {
            this.front = front;
        }

        /** Each put must be one that may be. */
        void run(int[] puts) {
            settleFeet(puts);
            shakeAll();
            beginVisits();
            for (int n = 0; n < MOST_CHILDREN; n++) {
                int brigade = nextToSave();
                if (brigade == NONE) {
                    return;
                }
                takeChild(brigade);
            }
        }

        boolean isBack(int brigade) {
            return window[brigade] == NONE;
        }

        int backs() {
            int bits = 0;
            for (int b = 0; b < front.brigadeCount; b++) {
                if (window[b] == NONE) {
                    bits |= 1 << b;
                }
            }
            return bits;
        }

        int savedAt(int which) {
            return front.windows[which][CHILDREN] - left[which];
        }

        private void settleFeet(int[] puts) {
            for (int b = 0; b < MOST_BRIGADES; b++) {
                boolean put = b < front.brigadeCount && puts[b] != STAND_BACK && hasItsPlace(b, puts);
                place[b] = put ? puts[b] / 10 : NONE;
                window[b] = put ? puts[b] % 10 : NONE;
            }
        }

        private boolean hasItsPlace(int b, int[] puts) {
            for (int other = 0; other < front.brigadeCount; other++) {
                int later = front.brigades[b][ARRIVES] - front.brigades[other][ARRIVES];
                boolean ahead = later > 0 || (later == 0 && other < b);
                if (ahead && puts[other] / 10 == puts[b] / 10) {
                    return false;
                }
            }
            return true;
        }

        private void shakeAll() {
            for (int b = 0; b < MOST_BRIGADES; b++) {
                shake[b] = 0;
            }
            for (int one = 0; one < front.brigadeCount; one++) {
                for (int other = one + 1; other < front.brigadeCount; other++) {
                    if (cross(one, other)) {
                        shake[one]++;
                        shake[other]++;
                    }
                }
            }
        }

        private boolean cross(int one, int other) {
            if (window[one] == NONE || window[other] == NONE) {
                return false;
            }
            int feet = place[one] - place[other];
            int heads = front.windows[window[one]][COLUMN] - front.windows[window[other]][COLUMN];
            return feet * heads < 0;
        }

        private void beginVisits() {
            taken = 0;
            for (int w = 0; w < front.windowCount; w++) {
                left[w] = front.windows[w][CHILDREN];
                firstAt[w] = NONE;
            }
            for (int b = 0; b < MOST_BRIGADES; b++) {
                saved[b] = 0;
                next[b] = NEVER;
                if (window[b] != NONE) {
                    int[] brigade = front.brigades[b];
                    climb[b] = brigade[PACE] * front.windows[window[b]][HEIGHT] * (shake[b] + 1);
                    next[b] = inTime(window[b], brigade[ARRIVES] + 1 + climb[b]);
                }
            }
        }

        private int inTime(int w, int minute) {
            return left[w] > 0 && minute < front.windows[w][FIRE] ? minute : NEVER;
        }

        /** Whose visit is the next that takes a child down. */
        private int nextToSave() {
            int found = 0;
            for (int b = 1; b < MOST_BRIGADES; b++) {
                if (next[b] < next[found]) {
                    found = b;
                }
            }
            return next[found] == NEVER ? NONE : found;
        }

        private void takeChild(int b) {
            int w = window[b];
            takenMinute[taken] = next[b];
            takenBy[taken] = b;
            takenFrom[taken] = w;
            taken++;
            if (firstAt[w] == NONE) {
                firstAt[w] = b;
            }
            saved[b]++;
            left[w]--;
            next[b] = inTime(w, next[b] + 2 * climb[b]);
            if (left[w] == 0) {
                leaveEmpty(w);
            }
        }

        /** Who finds no child will never find one again. */
        private void leaveEmpty(int w) {
            for (int b = 0; b < MOST_BRIGADES; b++) {
                if (window[b] == w) {
                    next[b] = NEVER;
                }
            }
        }

        /** All of a row that gains are reckoned from; brigades that there are not stand back. */
        int outcome() {
            int bits = 0;
            for (int b = 0; b < MOST_BRIGADES; b++) {
                int own = BACK_BIT;
                if (window[b] != NONE) {
                    own = saved[b] | (shake[b] << 4) | (firstAt[window[b]] == b ? FIRST_BIT : 0);
                }
                bits |= own << (8 * b);
            }
            return bits;
        }

        static int savedIn(int outcome, int b) {
            return (outcome >>> (8 * b)) & 15;
        }

        static int shakeIn(int outcome, int b) {
            return (outcome >>> (8 * b + 4)) & 3;
        }

        static boolean isBackIn(int outcome, int b) {
            return ((outcome >>> (8 * b)) & BACK_BIT) != 0;
        }

        static int allSavedIn(int outcome) {
            return (outcome & 15) + ((outcome >>> 8) & 15) + ((outcome >>> 16) & 15);
        }

        static int gain(int outcome, int b, int[] law, int sharing) {
            if (isBackIn(outcome, b)) {
                return law[STANDING];
            }
            return earned(outcome, b, law[PAY], sharing) - law[FINE] * shakeIn(outcome, b);
        }

        private static int earned(int outcome, int b, int pay, int sharing) {
            if (sharing == SHARED_BY_ALL) {
                int workers = MOST_BRIGADES - Integer.bitCount(outcome & ALL_BACK_BITS);
                return workers > 0 ? pay * allSavedIn(outcome) / workers : 0;
            }
            boolean first = ((outcome >>> (8 * b)) & FIRST_BIT) != 0;
            if (sharing == SHARED_TO_FIRST && !first) {
                return 0;
            }
            return pay * savedIn(outcome, b);
        }
    }

    /** All rows that may be, rising, with what comes of each: they hold as long as the front does. */
    private static final class Rows {
        /** Rows are marked by bits above those of an outcome. */
        static final int REST = 1 << 24;
        static final int EXPLAINS = 1 << 25;

        final Front front;
        private final Play play;
        private final int[][] putsOf = new int[MOST_BRIGADES][MOST_PUTS];
        private final int[] many = new int[MOST_BRIGADES];
        /** How far apart two rows are that differ by a brigade's next put alone. */
        private final int[] step = new int[MOST_BRIGADES];
        private final int[] chosen = new int[MOST_BRIGADES];
        private boolean known;
        int[] outcomes = new int[0];
        int size;
        int most;

        Rows(Front front, Play play) {
            this.front = front;
            this.play = play;
        }

        void forget() {
            known = false;
            size = 0;
        }

        void findAll() {
            if (known) {
                return;
            }
            listPuts();
            makeRoom();
            most = 0;
            for (int i = 0; i < size && i < outcomes.length; i++) {
                for (int b = 0; b < MOST_BRIGADES; b++) {
                    chosen[b] = putIn(i, b);
                }
                play.run(chosen);
                outcomes[i] = play.outcome();
                if (Play.allSavedIn(outcomes[i]) > Play.allSavedIn(outcomes[most])) {
                    most = i;
                }
            }
            known = true;
        }

        /** As much as any front of so many brigades can need, so that it is made three times at most. */
        private void makeRoom() {
            int need = 1;
            for (int b = 0; b < front.brigadeCount && b < MOST_BRIGADES; b++) {
                need = need * MOST_PUTS;
            }
            if (outcomes.length < need) {
                outcomes = new int[need];
            }
        }

        private void listPuts() {
            for (int b = 0; b < MOST_BRIGADES; b++) {
                many[b] = 0;
                for (int put = 0; put < STAND_BACK && b < front.brigadeCount; put++) {
                    if (front.mayPut(b, put) && many[b] < MOST_PUTS - 1) {
                        putsOf[b][many[b]] = put;
                        many[b]++;
                    }
                }
                putsOf[b][many[b]] = STAND_BACK;
                many[b]++;
            }
            size = 1;
            for (int b = MOST_BRIGADES - 1; b >= 0; b--) {
                step[b] = size;
                size = size * many[b];
            }
        }

        int putIn(int i, int b) {
            if (step[b] <= 0 || many[b] <= 0) {
                return STAND_BACK;
            }
            return putsOf[b][(i / step[b]) % many[b]];
        }

        /** The same for all rows that differ by this brigade's put alone, and below 625. */
        int othersIn(int i, int b) {
            if (step[b] <= 0 || many[b] <= 0) {
                return 0;
            }
            return i / (step[b] * many[b]) * step[b] + i % step[b];
        }

        int rowAt(int i) {
            int row = 0;
            for (int b = 0; b < front.brigadeCount; b++) {
                row = row * 100 + putIn(i, b);
            }
            return row;
        }

        int savedAt(int i) {
            return i >= 0 && i < size && i < outcomes.length ? Play.allSavedIn(outcomes[i]) : 0;
        }

        int mostSaved() {
            return savedAt(most);
        }

        void mark(int i, int mark, boolean on) {
            outcomes[i] = on ? outcomes[i] | mark : outcomes[i] & ~mark;
        }

        boolean isMarked(int i, int mark) {
            return (outcomes[i] & mark) != 0;
        }

        /** The n-th of all that are so marked; how many there are, if n is NONE. */
        int markedRow(int mark, int n) {
            int seen = 0;
            for (int i = 0; i < size; i++) {
                if (isMarked(i, mark)) {
                    if (seen == n) {
                        return rowAt(i);
                    }
                    seen++;
                }
            }
            return n == NONE ? seen : NONE;
        }
    }

    /**
     * Rows by which none has more by another put alone. A brigade can always stand back, and
     * nothing else depends on the pay for that: so each row has a least and a greatest
     * such pay by which it is a rest, and one look at it serves all of them.
     */
    private static final class Rests {
        private static final int OTHERS = MOST_PUTS * MOST_PUTS;

        private final Rows rows;
        private final Season season;
        private final int[][] bestWork;
        private int leastPay;
        private int mostPay;
        private boolean restsKnown;
        private boolean sharingsKnown;
        private boolean bribeKnown;
        private int foundBribe;
        int bestSharing;
        int bestSaved;

        Rests(Rows rows, Season season) {
            this.rows = rows;
            this.season = season;
            bestWork = new int[MOST_BRIGADES][OTHERS];
        }

        void forget() {
            restsKnown = false;
            sharingsKnown = false;
            bribeKnown = false;
        }

        void findAll() {
            if (restsKnown) {
                return;
            }
            rows.findAll();
            findBestWork(season.law[SHARING]);
            for (int i = 0; i < rows.size; i++) {
                rows.mark(i, Rows.REST, isRest(i, season.law[SHARING]));
            }
            restsKnown = true;
        }

        /** NONE: there is no rest. */
        int worstSaved() {
            findAll();
            int worst = NONE;
            for (int i = 0; i < rows.size; i++) {
                if (rows.isMarked(i, Rows.REST) && (worst == NONE || rows.savedAt(i) < worst)) {
                    worst = rows.savedAt(i);
                }
            }
            return worst;
        }

        void compareSharings() {
            if (sharingsKnown) {
                return;
            }
            rows.findAll();
            bestSharing = NONE;
            bestSaved = NONE;
            for (int sharing = 0; sharing < SHARINGS; sharing++) {
                int saved = mostSavedByRest(sharing);
                if (saved > bestSaved) {
                    bestSharing = sharing;
                    bestSaved = saved;
                }
            }
            sharingsKnown = true;
        }

        private int mostSavedByRest(int sharing) {
            findBestWork(sharing);
            int saved = NONE;
            for (int i = 0; i < rows.size; i++) {
                if (rows.savedAt(i) > saved && isRest(i, sharing)) {
                    saved = rows.savedAt(i);
                }
            }
            return saved;
        }

        int leastBribe() {
            if (bribeKnown) {
                return foundBribe;
            }
            rows.findAll();
            findBestWork(season.law[SHARING]);
            foundBribe = NONE;
            for (int i = 0; i < rows.size; i++) {
                if (rows.savedAt(i) == rows.mostSaved() && boundPay(i, season.law[SHARING])) {
                    if (foundBribe == NONE || leastPay < foundBribe) {
                        foundBribe = leastPay;
                    }
                }
            }
            bribeKnown = true;
            return foundBribe;
        }

        /** Of each brigade, by what all others do: the most that it gains without standing back. */
        private void findBestWork(int sharing) {
            for (int b = 0; b < MOST_BRIGADES; b++) {
                for (int others = 0; others < OTHERS; others++) {
                    bestWork[b][others] = HIDDEN;
                }
            }
            for (int b = 0; b < rows.front.brigadeCount; b++) {
                for (int i = 0; i < rows.size; i++) {
                    int others = rows.othersIn(i, b);
                    if (!Play.isBackIn(rows.outcomes[i], b)) {
                        int gain = Play.gain(rows.outcomes[i], b, season.law, sharing);
                        bestWork[b][others] = Math.max(bestWork[b][others], gain);
                    }
                }
            }
        }

        private boolean isRest(int i, int sharing) {
            int pay = season.law[STANDING];
            return boundPay(i, sharing) && leastPay <= pay && pay <= mostPay;
        }

        /** By which pay for standing back a row is a rest; false: by none. */
        private boolean boundPay(int i, int sharing) {
            leastPay = 0;
            mostPay = MOST_PAY;
            for (int b = 0; b < rows.front.brigadeCount; b++) {
                int work = bestWork[b][rows.othersIn(i, b)];
                if (Play.isBackIn(rows.outcomes[i], b)) {
                    leastPay = Math.max(leastPay, work);
                } else {
                    int gain = Play.gain(rows.outcomes[i], b, season.law, sharing);
                    if (gain < work) {
                        return false;
                    }
                    mostPay = Math.min(mostPay, gain);
                }
            }
            return leastPay <= mostPay;
        }
    }

    /** Rows by which all ashes are as they are. */
    private static final class Explained {
        private final Rows rows;
        private final Season season;
        int knockers;
        private boolean known;

        Explained(Rows rows, Season season) {
            this.rows = rows;
            this.season = season;
        }

        void forget() {
            known = false;
        }

        void findAll() {
            if (known) {
                return;
            }
            rows.findAll();
            boolean any = false;
            knockers = (1 << rows.front.brigadeCount) - 1;
            for (int i = 0; i < rows.size; i++) {
                boolean agrees = agrees(i);
                rows.mark(i, Rows.EXPLAINS, agrees);
                if (agrees) {
                    any = true;
                    knockers &= crossersIn(rows.outcomes[i]);
                }
            }
            knockers = any ? knockers : 0;
            known = true;
        }

        private boolean agrees(int i) {
            for (int n = 0; n < season.ashCount; n++) {
                int which = season.ashWhich[n];
                int seen = season.ashSort[n] == 0 ? feetOn(i, which) : savedFrom(i, which);
                if (seen != season.ashValue[n]) {
                    return false;
                }
            }
            return true;
        }

        private int feetOn(int i, int place) {
            for (int b = 0; b < rows.front.brigadeCount; b++) {
                if (!Play.isBackIn(rows.outcomes[i], b) && rows.putIn(i, b) / 10 == place) {
                    return 1;
                }
            }
            return 0;
        }

        private int savedFrom(int i, int window) {
            int saved = 0;
            for (int b = 0; b < rows.front.brigadeCount; b++) {
                if (!Play.isBackIn(rows.outcomes[i], b) && rows.putIn(i, b) % 10 == window) {
                    saved += Play.savedIn(rows.outcomes[i], b);
                }
            }
            return saved;
        }

        private static int crossersIn(int outcome) {
            int bits = 0;
            for (int b = 0; b < MOST_BRIGADES; b++) {
                if (Play.shakeIn(outcome, b) > 0) {
                    bits |= 1 << b;
                }
            }
            return bits;
        }
    }

    /** All of a front that goes on changing, and that an image keeps. */
    private static final class Season {
        final int[] law = new int[LAW_LETTERS.length];
        final int[] ruleOf = new int[MOST_BRIGADES];
        final int[] ashSort = new int[MOST_ASHES];
        final int[] ashWhich = new int[MOST_ASHES];
        final int[] ashValue = new int[MOST_ASHES];
        int ashCount;
        int nights;
        int undoable;
        final int[] saved = new int[MOST_BRIGADES];
        final int[] gained = new int[MOST_BRIGADES];
        /** Of the latest nights, each where its number modulo their number says. */
        private final int[] savedThen = new int[MOST_UNDONE * MOST_BRIGADES];
        private final int[] gainedThen = new int[MOST_UNDONE * MOST_BRIGADES];

        void begin(int[] toldLaw) {
            System.arraycopy(toldLaw, 0, law, 0, law.length);
            for (int b = 0; b < MOST_BRIGADES; b++) {
                ruleOf[b] = NONE;
                saved[b] = 0;
                gained[b] = 0;
            }
            ashCount = 0;
            nights = 0;
            undoable = 0;
        }

        void addAsh(int sort, int which, int v) {
            if (ashCount < MOST_ASHES) {
                ashSort[ashCount] = sort;
                ashWhich[ashCount] = which;
                ashValue[ashCount] = v;
                ashCount++;
            }
        }

        int savedInAll() {
            return saved[0] + saved[1] + saved[2];
        }

        void openNight() {
            nights++;
            undoable = Math.min(undoable + 1, MOST_UNDONE);
            for (int b = 0; b < MOST_BRIGADES; b++) {
                savedThen[latest(b)] = 0;
                gainedThen[latest(b)] = 0;
            }
        }

        void addToNight(int b, int savedNow, int gainedNow) {
            savedThen[latest(b)] = savedNow;
            gainedThen[latest(b)] = gainedNow;
            saved[b] += savedNow;
            gained[b] += gainedNow;
        }

        void takeBack() {
            for (int b = 0; b < MOST_BRIGADES; b++) {
                saved[b] -= savedThen[latest(b)];
                gained[b] -= gainedThen[latest(b)];
            }
            nights--;
            undoable--;
        }

        private int latest(int b) {
            return Math.floorMod(nights, MOST_UNDONE) * MOST_BRIGADES + b;
        }

        void copyFrom(Season other) {
            System.arraycopy(other.law, 0, law, 0, law.length);
            System.arraycopy(other.ruleOf, 0, ruleOf, 0, ruleOf.length);
            System.arraycopy(other.ashSort, 0, ashSort, 0, MOST_ASHES);
            System.arraycopy(other.ashWhich, 0, ashWhich, 0, MOST_ASHES);
            System.arraycopy(other.ashValue, 0, ashValue, 0, MOST_ASHES);
            ashCount = other.ashCount;
            nights = other.nights;
            undoable = other.undoable;
            System.arraycopy(other.saved, 0, saved, 0, MOST_BRIGADES);
            System.arraycopy(other.gained, 0, gained, 0, MOST_BRIGADES);
            System.arraycopy(other.savedThen, 0, savedThen, 0, savedThen.length);
            System.arraycopy(other.gainedThen, 0, gainedThen, 0, gainedThen.length);
        }
    }
}

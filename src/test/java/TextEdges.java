/** Edges of texts: the tape, fronts, rules, what is wrong in them; promises 1 to 5 and the constants. */
final class TextEdges {
    private static final int NONE = ThreeLadders.NONE;
    private static final int HIDDEN = ThreeLadders.HIDDEN;
    private static final String DIGITS = "0123456789";
    private static final String ATOMS = "dhcfok" + DIGITS;

    private final Sentences doc;

    TextEdges(Sentences doc) {
        this.doc = doc;
    }

    void run() {
        constants();
        newObject();
        feedCounts();
        feedIsFull();
        ends();
        clauseCounts();
        itemBounds();
        itemsOnce();
        frontBlanks();
        frontGoesOn();
        ruleGoesOn();
        ruleNumbers();
        ruleNesting();
        endsTooEarly();
        faultSorts();
        frontTaken();
        rulesTaken();
        textsRefused();
    }

    private void constants() {
        doc.says(0, "`NONE = -1`: None; refused.");
        Due.is("NONE", ThreeLadders.NONE, -1);
        Due.is("refused", new ThreeLadders().text(7), -1);
        doc.says(0, "`HIDDEN = -1000000`: Not told.");
        Due.is("HIDDEN", ThreeLadders.HIDDEN, -1000000);
        Due.is("not told", new ThreeLadders().count(8), -1000000);
    }

    private void newObject() {
        doc.says(1, "No FRONT.");
        ThreeLadders x = new ThreeLadders();
        for (int what = 0; what <= 7; what++) {
            Due.is("count(" + what + ")", x.count(what), 0);
        }
        Due.noSuchBrigade(x, 0, 0);
        Due.is("window", x.window(0, 0), NONE);
        Due.is("law", x.law(0), NONE);
        Due.is("told", x.told(99, 0, 0), HIDDEN);
        Due.is("fault as a front", x.fault(0), 0);
        Due.is("fault as a rule", x.fault(1), 0);
        Due.is("text of nothing", x.text(0), NONE);
        Due.is("text of nothing", x.text(1), NONE);
    }

    private void feedCounts() {
        String twenty = "w;b;lp99s99k99q2;w;w";
        doc.says(2, "Twenty bytes more come to the TAPE");
        Due.is("twenty", twenty.length(), 20);
        Due.is("twenty", feed(new ThreeLadders(), twenty), 20);
        ThreeLadders x = new ThreeLadders();
        feed(x, twenty);
        Due.is("twenty more", feed(x, twenty), 40);
        doc.says(2, "of each number the highest first");
        Due.is("all in order", fedFault(twenty), NONE);
        for (int i = 0; i < 20; i++) {
            Due.is("wrong at " + i, fedFault(twenty.substring(0, i) + "~" + twenty.substring(i + 1)), i);
        }
        doc.says(2, "bytes of 0 are left out");
        String nineteen = "w;b;lp99s99k99q2;w ";
        for (int i = 0; i < 20; i++) {
            String fed = nineteen.substring(0, i) + (char) 0 + nineteen.substring(i);
            Due.is("0 at " + i, feed(new ThreeLadders(), fed), 19);
            Due.is("0 at " + i + ": nothing between", fedFault(fed), NONE);
        }
        Due.is("nothing but 0", new ThreeLadders().feed(0, 0, 0, 0, 0), 0);
        Due.is("255 is a byte", new ThreeLadders().feed(-1, -1, -1, -1, -1), 20);
        Due.is("128 is a byte", new ThreeLadders().feed(Integer.MIN_VALUE, 128, 0, 0, 0), 2);
    }

    private void feedIsFull() {
        doc.says(2, "NONE: more than 160.");
        for (int i = 0; i < 20; i++) {
            for (int sign : new int[] {1, 2, 127, 128, 255}) {
                oneMore(i, sign);
            }
        }
        ThreeLadders z = blanks(160);
        Due.is("160 and nothing", z.feed(0, 0, 0, 0, 0), 160);
        for (int n = 141; n < 160; n++) {
            ThreeLadders x = blanks(n);
            Due.is(n + " and twenty", feed(x, "wwwwwwwwwwwwwwwwwwww"), NONE);
            Due.is("none of them came", x.count(3) == n && x.fault(0) == n, true);
        }
        Due.is("140 and twenty", feed(blanks(140), "wwwwwwwwwwwwwwwwwwww"), 160);
    }

    private static void oneMore(int at, int sign) {
        int[] one = new int[5];
        one[at / 4] = sign << (24 - 8 * (at % 4));
        ThreeLadders x = blanks(160);
        Due.is("160 and one", x.feed(one[0], one[1], one[2], one[3], one[4]), NONE);
        Due.is("still 160", x.count(3), 160);
        Due.is("still blanks", x.fault(0), 160);
        ThreeLadders y = blanks(159);
        Due.is("159 and one", y.feed(one[0], one[1], one[2], one[3], one[4]), 160);
        Due.is("it came to the end", y.fault(0), 159);
    }

    private void ends() {
        doc.says(3, "The TAPE has its first n bytes alone.");
        ThreeLadders x = new ThreeLadders();
        Due.is("none of none", x.end(0), true);
        feed(x, "w;b;w~");
        Due.is("all of them", x.end(6) && x.count(3) == 6 && x.fault(0) == 5, true);
        Due.is("the first five", x.end(5) && x.count(3) == 5 && x.fault(0) == NONE, true);
        Due.is("the first four", x.end(4) && x.fault(0) == 4, true);
        Due.is("what comes then stands behind them", feed(x, "l") == 5 && x.fault(0) == NONE, true);
        Due.is("none", x.end(0) && x.count(3) == 0 && x.fault(0) == 0, true);
        doc.says(3, "False: n.");
        feed(x, "w;b");
        for (int n : new int[] {-1, 4, 160, 161, Integer.MIN_VALUE, Integer.MAX_VALUE}) {
            Due.is("end(" + n + ")", x.end(n), false);
            Due.is("all is there", x.count(3) == 3 && x.fault(0) == NONE, true);
        }
        Due.is("one of none", new ThreeLadders().end(1), false);
    }

    private void clauseCounts() {
        doc.says(0, "w (a WINDOW; 1 .. 4), b (a BRIGADE; 1 .. 3), l (the LAW; one at most), in any order");
        String[] orders = {"w;b;l", "w;l;b", "b;w;l", "b;l;w", "l;w;b", "l;b;w", "w;b", "b;w"};
        for (String order : orders) {
            Due.frontFault(order, NONE);
        }
        ThreeLadders x = Due.front("wx1;b;wx2;ba1;l;wx3;ba2;wx4");
        for (int i = 0; i < 4; i++) {
            Due.is("windows by their order", x.window(i, 0), i + 1);
        }
        for (int i = 0; i < 3; i++) {
            Due.is("brigades by their order", x.brigade(i, 0), i);
        }
        Due.is("four windows", x.count(1), 4);
        Due.is("three brigades", x.count(0), 3);
        doc.says(0, "the length, if it ends too early, or without a WINDOW, a BRIGADE");
        Due.frontFault("", 0);
        Due.frontFault("w", 1);
        Due.frontFault("b", 1);
        Due.frontFault("l", 1);
        Due.frontFault("b;b;b;l", 7);
        Due.frontFault("w;w;w;w;l", 9);
        Due.frontFault("w;l ", 4);
        Due.frontFault("w;b;", 4);
        Due.frontFault("w;w;w;w;b;b;b;l;", 16);
        doc.says(0, "a fifth w, a fourth b, a second l");
        Due.frontFault("w;w;w;w;b", NONE);
        Due.frontFault("w;w;w;w;w;b", 8);
        Due.frontFault("b;w;w;w;w; w", 11);
        Due.frontFault("b;b;b;w", NONE);
        Due.frontFault("b;b;b;b;w", 6);
        Due.frontFault("w;b;b;b;b", 8);
        Due.frontFault("l;l;w;b", 2);
        Due.frontFault("w;l;b;l", 6);
        for (String one : new String[] {"w", "b", "l"}) {
            Due.frontFault("w;w;w;w;b;b;b;l;" + one, 16);
        }
    }

    private void itemBounds() {
        doc.says(0, "x COLUMN (0 .. 5; 0 without)");
        item('w', 'x', 0, 0, 5, 0);
        doc.says(0, "h HEIGHT (1 .. 9; 3)");
        item('w', 'h', 1, 1, 9, 3);
        doc.says(0, "c CHILDREN (0 .. 9; 1)");
        item('w', 'c', 2, 0, 9, 1);
        doc.says(0, "f the minute of its FIRE (1 .. 60; 30)");
        item('w', 'f', 3, 1, 60, 30);
        doc.says(0, "a the minute it ARRIVES (0 .. 30; 0)");
        item('b', 'a', 0, 0, 30, 0);
        doc.says(0, "n LENGTH of its ladder (1 .. 12; 6)");
        item('b', 'n', 1, 1, 12, 6);
        doc.says(0, "p PACE: minutes for each of HEIGHT (1 .. 5; 1)");
        item('b', 'p', 2, 1, 5, 1);
        doc.says(0, "p PAY for a child (0 .. 99; 10)");
        item('l', 'p', 0, 0, 99, 10);
        doc.says(0, "s for STANDING back (0 .. 99; 0)");
        item('l', 's', 1, 0, 99, 0);
        doc.says(0, "k FINE for knocking (0 .. 99; 0)");
        item('l', 'k', 2, 0, 99, 0);
        doc.says(0, "q SHARING (0 .. 2; 0)");
        item('l', 'q', 3, 0, 2, 0);
        Due.is("no law told at all", Due.front("w;b").law(0), 10);
    }

    private static final String[] BEHIND = {";b", ";w", ";w;b"};
    private static final String[] AHEAD = {"b;", "w;", "w;b;"};

    /** An item in a clause at the head of a text and in one at its end. */
    private void item(char clause, char letter, int what, int least, int most, int untold) {
        int sort = "wbl".indexOf(clause);
        Due.is("untold", toldOf(sort, what, clause + BEHIND[sort]), untold);
        for (int v = 0; v <= 99; v++) {
            for (String digits : v < 10 ? new String[] {"" + v, "0" + v} : new String[] {"" + v}) {
                String text = "" + clause + letter + digits;
                boolean fine = v >= least && v <= most;
                Due.frontFault(text + BEHIND[sort], fine ? NONE : text.length() - 1);
                Due.frontFault(AHEAD[sort] + text, fine ? NONE : AHEAD[sort].length() + text.length() - 1);
                Due.frontFault(text + "0" + BEHIND[sort], digits.length() == 2 ? 4 : faultOfTens(v, least, most));
                if (fine) {
                    Due.is("told as " + digits, toldOf(sort, what, text + BEHIND[sort]), v);
                }
            }
        }
        Due.frontFault("" + clause + letter + "000" + BEHIND[sort], 4);
        Due.frontFault("" + clause + letter + "9999" + BEHIND[sort], 4);
        Due.frontFault("" + clause + letter + BEHIND[sort], 2);
        Due.frontFault(AHEAD[sort] + clause + letter, AHEAD[sort].length() + 2);
        Due.frontFault("" + clause + letter + "-1" + BEHIND[sort], 2);
    }

    private static int faultOfTens(int v, int least, int most) {
        return 10 * v >= least && 10 * v <= most ? NONE : 3;
    }

    private static int toldOf(int sort, int what, String text) {
        ThreeLadders x = Due.front(text);
        return sort == 0 ? x.window(0, what) : sort == 1 ? x.brigade(0, what) : x.law(what);
    }

    private void itemsOnce() {
        doc.says(0, "a letter, each once at most in a CLAUSE, and a number (one or two digits)");
        String[] items = {"x1h1c1f1", "a1n1p1", "p1s1k1q1"};
        for (int sort = 0; sort < 3; sort++) {
            String head = "wbl".substring(sort, sort + 1) + items[sort];
            Due.frontFault(head + BEHIND[sort], NONE);
            for (int i = 0; i < items[sort].length(); i += 2) {
                char letter = items[sort].charAt(i);
                Due.frontFault(head + letter + "1" + BEHIND[sort], head.length());
                Due.frontFault(head.charAt(0) + "" + letter + "1" + letter + BEHIND[sort], 3);
                Due.frontFault(head.charAt(0) + "" + letter + BEHIND[sort], 2);
            }
        }
        Due.frontFault("wx1;wx1;ba1;ba1;ba1;lp1", NONE);
        Due.frontFault("wf1c1h1x1;bp1n1a1;lq1k1s1p1", NONE);
        doc.says(0, "a letter that was there");
        Due.frontFault("wx1h2x", 5);
        Due.frontFault("b a 1 a 2;w", 6);
        Due.frontFault("w;b;lq1q", 7);
        doc.says(0, "a number out of bounds is wrong at its last digit");
        Due.frontFault("wx6x6;b", 2);
        Due.frontFault("wx10;b", 3);
        Due.frontFault("wx6 5;b", 2);
        Due.frontFault("wx 6", 3);
        doc.says(0, "a third digit (whatever stands ahead of it; a fifth one in a RULE) itself");
        Due.frontFault("wx000;b", 4);
        Due.frontFault("wx555;b", 4);
        Due.frontFault("wx600;b", 4);
        Due.frontFault("wf301;b", 4);
        Due.frontFault("wf3012;b", 4);
        Due.ruleFault("y:12345", 6);
        Due.ruleFault("y:00000", 6);
        Due.ruleFault("y:999999", 6);
        Due.ruleFault("y:0001", NONE);
    }

    private void frontBlanks() {
        doc.says(0, "Blanks (32) may stand between all signs of both, not within numbers.");
        Due.frontFault("   w   x   5   h   9   ;   b   ;   l   q   2   ", NONE);
        Due.frontFault("wx0 5;b", 4);
        Due.frontFault("wf3 0;b", 4);
        Due.frontFault("  ", 2);
        Due.ruleFault("  y  :  d  >  1  &  !  (  h  =  2  )  ?  [  c  +  12  ]  *  f  ;  y  :  o  /  k  ", NONE);
        Due.ruleFault("y:1 2", 4);
        Due.ruleFault("y:12 34", 5);
        Due.ruleFault("  ", 2);
        for (int sign : new int[] {1, 8, 9, 10, 11, 12, 13, 31, 33, 127, 128, 133, 160, 255}) {
            Due.frontFault("w" + (char) sign + ";b", 1);
            Due.ruleFault("y" + (char) sign + ":1", 1);
        }
    }

    /** Each byte behind a text: those by which all is fine, those behind which more must come, all others wrong. */
    private static void goesOn(int sort, String text, String fine, String early) {
        for (int sign = 1; sign < 256; sign++) {
            int want = text.length();
            if (early.indexOf(sign) >= 0) {
                want = text.length() + 1;
            } else if (fine.indexOf(sign) >= 0) {
                want = NONE;
            }
            ThreeLadders x = new ThreeLadders();
            Due.tape(x, text + (char) sign);
            Due.is("fault(" + sort + ") of '" + text + "' and byte " + sign, x.fault(sort), want);
        }
    }

    private void frontGoesOn() {
        doc.says(0, "FAULT: the first byte at which no such TEXT can go on");
        goesOn(0, "", "", "wbl ");
        goesOn(0, "w", "", "xhcf; ");
        goesOn(0, "b", "", "anp; ");
        goesOn(0, "l", "", "pskq; ");
        goesOn(0, "wx", "", "012345 ");
        goesOn(0, "wx5", "", "hcf; ");
        goesOn(0, "wx0", "", "012345hcf; ");
        goesOn(0, "w;", "b", "wl ");
        goesOn(0, "w;b", " ", "anp;");
        goesOn(0, "w;b;", "wbl", " ");
        goesOn(0, "b;b;b;w;", "wl", " ");
        goesOn(0, "w;w;w;w;b;", "bl", " ");
        goesOn(0, "l;w;b;", "wb", " ");
        goesOn(0, "w;w;w;w;b;b;b;l;", "", " ");
        goesOn(0, "w;b;lp", DIGITS, " ");
        goesOn(0, "w;b;lp1", DIGITS + " ", "skq;");
        goesOn(0, "w;b;lp10", " ", "skq;");
        goesOn(0, "w;b;lp1 ", " ", "skq;");
        goesOn(0, "w;b;lp1s1k1q1", " ", ";");
        goesOn(0, "w;b;lp1s1k1q0", "012 ", ";");
    }

    private void ruleGoesOn() {
        doc.says(0, "RULES (4 at most) are TEXTS: CLAUSES with ; between, one at least");
        goesOn(1, "", "", "y ");
        goesOn(1, "y", "", ": ");
        goesOn(1, "y:1;", "", "y ");
        goesOn(1, "y:1;y", "", ": ");
        goesOn(1, "y:1;y:", ATOMS, "[(! ");
        doc.says(0, "y, : , perhaps CONDITION ?, then SUM.");
        goesOn(1, "y:", ATOMS, "[(! ");
        goesOn(1, "y:d=1", "", DIGITS + "+-*/&|? ");
        goesOn(1, "y:d=1?", ATOMS, "[ ");
        goesOn(1, "y:d=1?d", " ", "+-*/;");
        doc.says(0, "CONDITION: TRUTHS with | between");
        goesOn(1, "y:d=d|", "", ATOMS + "[(! ");
        goesOn(1, "y:(d=d|", "", ATOMS + "[(! ");
        doc.says(0, "TRUTH: UNITS with & between");
        goesOn(1, "y:d=d&", "", ATOMS + "[(! ");
        goesOn(1, "y:(d=d&d=d", "", "+-*/&|) ");
        doc.says(0, "UNIT: ! UNIT, ( CONDITION ), or SUM, one of = < >, SUM.");
        goesOn(1, "y:!", "", ATOMS + "[(! ");
        goesOn(1, "y:!d", "", "+-*/=<> ");
        goesOn(1, "y:!d=d", "", "+-*/&|? ");
        goesOn(1, "y:(", "", ATOMS + "[(! ");
        goesOn(1, "y:(d", "", "+-*/=<> ");
        goesOn(1, "y:(d<", "", ATOMS + "[ ");
        goesOn(1, "y:(d=d", "", "+-*/&|) ");
        goesOn(1, "y:(d=d)", "", "&|? ");
        goesOn(1, "y:((d=d)", "", "&|) ");
        goesOn(1, "y:d=", "", ATOMS + "[ ");
        goesOn(1, "y:d>", "", ATOMS + "[ ");
        goesOn(1, "y:d=d&d", "", "+-*/=<> ");
        doc.says(0, "SUM: TERMS with + or - between");
        goesOn(1, "y:d+", ATOMS, "[ ");
        goesOn(1, "y:d-", ATOMS, "[ ");
        goesOn(1, "y:d", " ", "+-*/=<>;");
        doc.says(0, "TERM: ATOMS with * or / between");
        goesOn(1, "y:d*", ATOMS, "[ ");
        goesOn(1, "y:d/", ATOMS, "[ ");
        doc.says(0, "ATOM: a number (1 to 4 digits), a letter (d h c f o k), [ SUM ].");
        goesOn(1, "y:[", "", ATOMS + "[ ");
        goesOn(1, "y:[d", "]", "+-*/ ");
        goesOn(1, "y:[d]", " ", "+-*/=<>;");
        goesOn(1, "y:[[d]", "]", "+-*/ ");
        goesOn(1, "y:d=[d", "", "+-*/] ");
        doc.says(0, "(A CLAUSE that goes on with ! or ( behind its : has a CONDITION.)");
        Due.ruleFault("y:(d)", 4);
        Due.ruleFault("y:(d=1)", 7);
        Due.ruleFault("y:!d", 4);
        Due.ruleFault("y:!d;y:1", 4);
        Due.ruleFault("y:(d=1);y:1", 7);
        Due.ruleFault("y:(d=1)?1", NONE);
        Due.ruleFault("y:!d=1?1", NONE);
    }

    private void ruleNumbers() {
        doc.says(0, "a number (1 to 4 digits)");
        goesOn(1, "y:1", DIGITS + " ", "+-*/=<>;");
        goesOn(1, "y:123", DIGITS + " ", "+-*/=<>;");
        goesOn(1, "y:9999", " ", "+-*/=<>;");
        goesOn(1, "y:d=9999", "", "+-*/&|? ");
        goesOn(1, "y:[9999", "]", "+-*/ ");
        Due.ruleFault("y:-1", 2);
    }

    private void ruleNesting() {
        doc.says(0, "At most six of ( [ ! within one another.");
        Due.ruleFault("y:[[[[[[1]]]]]]", NONE);
        Due.ruleFault("y:((((((d=1))))))?1", NONE);
        Due.ruleFault("y:!!!!!!d=1?1", NONE);
        Due.ruleFault("y:!(!([[d]]=1))?1", NONE);
        Due.ruleFault("y:d=[[[[[[1]]]]]]?[[[[[[1]]]]]]", NONE);
        Due.ruleFault("y:((((((d=1))))))&!!!!!!d=1|[[[[[[d]]]]]]=1?1", NONE);
        Due.ruleFault("y:[1]+[1]+[1]+[1]+[1]+[1]+[1]+[1]", NONE);
        Due.ruleFault("y:!d=1&!d=1&!d=1&!d=1&!d=1&!d=1&!d=1?1", NONE);
        Due.ruleFault("y:(d=1)|(d=1)|(d=1)|(d=1)|(d=1)|(d=1)|(d=1)?1", NONE);
        Due.ruleFault("y:[[[[[[1]]]]]]*[[[[[[1]]]]]];y:[[[[[[1]]]]]]", NONE);
        doc.says(0, "a seventh of ( [ ! at it");
        for (String six : new String[] {"((((((", "!!!!!!", "!(!(!(", "(!!(!!", "!!!((("}) {
            for (String seventh : new String[] {"(", "[", "!"}) {
                Due.ruleFault("y:" + six + seventh + "d", 8);
                Due.ruleFault("y:1;y:" + six + " " + seventh, 13);
                Due.ruleFault("y:d=1|" + six + seventh, 12);
            }
            Due.ruleFault("y:" + six + "d=[", 10);
        }
        Due.ruleFault("y:[[[[[[[1]]]]]]]", 8);
        Due.ruleFault("y:d=[[[[[[[", 10);
        Due.ruleFault("y:d=1?[[[[[[[", 12);
        Due.ruleFault("y:(((((d+[[1", 10);
        Due.ruleFault("y:(((((!d=1&[1]=1&!(", 19);
        Due.ruleFault("y:!!!!!!!!!!!!!!!!", 8);
    }

    private void endsTooEarly() {
        doc.says(0, "the length, if it ends too early");
        String front = "w x 5 h 9 c 9 f 60 ; b a 30 n 12 p 5 ; l p 99 s 99 k 99 q 2 ";
        for (int n = 0; n <= front.length(); n++) {
            String head = front.substring(0, n);
            boolean open = ";xhcfanpskq".indexOf(lastSign(head)) >= 0;
            Due.frontFault(head, head.indexOf('b') < 0 || open ? n : NONE);
        }
        String rule = "y : d + 1 > [ h * 2 ] & ! ( c = 3 | f < 9999 ) ? o - k / 2 ; y : 7 ";
        for (int n = 0; n <= rule.length(); n++) {
            String head = rule.substring(0, n);
            boolean sum = head.indexOf('>') < 0 || head.indexOf('?') >= 0;
            Due.ruleFault(head, sum && "d1ok27".indexOf(lastSign(head)) >= 0 ? NONE : n);
        }
    }

    private static char lastSign(String text) {
        String signs = text.trim();
        return signs.isEmpty() ? ';' : signs.charAt(signs.length() - 1);
    }

    private void faultSorts() {
        doc.says(4, "The FAULT of the TAPE as a FRONT (0), a RULE (1).");
        ThreeLadders x = new ThreeLadders();
        Due.tape(x, "y:1;w");
        Due.is("as a front", x.fault(0), 0);
        Due.is("as a rule", x.fault(1), 4);
        Due.is("the tape is as it was", x.count(3), 5);
        doc.says(4, "NONE: none.");
        Due.tape(x, "w;b;l");
        Due.is("as a front", x.fault(0), NONE);
        Due.is("asked again", x.fault(0), NONE);
        Due.is("no front by that", x.count(0), 0);
        Due.tape(x, "y:1");
        Due.is("as a rule", x.fault(1), NONE);
        Due.is("asked again", x.fault(1), NONE);
        Due.is("no rule by that", x.count(2), 0);
        doc.says(4, "-2: no such sort.");
        for (int sort : new int[] {-2, -1, 2, 3, Integer.MIN_VALUE, Integer.MAX_VALUE}) {
            Due.is("fault(" + sort + ")", x.fault(sort), -2);
        }
    }

    private void frontTaken() {
        doc.says(5, "The TAPE (empty then) is the FRONT");
        ThreeLadders x = new ThreeLadders();
        Due.tape(x, "wc3;b;lp5");
        Due.is("one brigade", x.text(0), 1);
        Due.is("empty", x.count(3) == 0 && x.fault(0) == 0, true);
        doc.says(5, "(all that was of another one is gone but RULES)");
        nothingIsLeft();
        Due.addRule(x, "y:c");
        x.rule(0, 0);
        x.change(1, 9);
        x.ash(1, 0, 1);
        x.night(0);
        x.image();
        x.rests(NONE);
        x.explain(NONE);
        Due.tape(x, "wx2h1;b;b;b");
        Due.is("three brigades", x.text(0), 3);
        Due.is("rules stay", x.count(2), 1);
        Due.is("no rule of a brigade", x.brigade(0, 3), NONE);
        Due.is("its law", x.law(0) * 100 + x.law(1), 1000);
        Due.is("no ashes", x.count(7), 0);
        Due.is("no nights", x.count(4) == 0 && x.count(5) == 0 && x.count(6) == 0, true);
        Due.is("nothing saved in nights", x.brigade(0, 4), 0);
        Due.is("no gains in nights", x.brigade(0, 5), 0);
        Due.is("nothing to undo", x.undo(), NONE);
        Due.is("no image", x.back(), NONE);
        Due.is("its windows", x.window(0, 0) * 10 + x.window(0, 2), 21);
        Due.is("all rows of it explain", x.explain(NONE), 7 * 7 * 7);
        Due.is("the rule is there for its brigades", x.rule(2, 0), true);
        Due.tape(x, "w;b");
        Due.is("one again", x.text(0), 1);
        Due.noSuchBrigade(x, 1, 0);
        Due.is("one window", x.window(1, 0), NONE);
        Due.is("a row of one brigade", x.all(0, 0), 1);
        Due.is("no row of three", x.all(999999, 0), HIDDEN);
    }

    /** All that is asked of one front is asked anew of the next one. */
    private static void nothingIsLeft() {
        String[] fronts = {"wx2h1c3f60;w;bn1;bn2;bn3;lp40s50k9q2", "wc0;b", "wh1;bn1;lp10s10", "wx3h1c1f11;ba0n4p2;ba0n2p1",
            "wh1c2f9;bn1;bn1", "wx5h1c9f60;bn1;bn1;bn1;ls90"};
        ThreeLadders x = new ThreeLadders();
        for (String front : fronts) {
            Due.tape(x, front);
            x.text(0);
            ThreeLadders y = Due.front(front);
            Due.is("all of '" + front + "'", asked(x), asked(y));
        }
    }

    private static int[] asked(ThreeLadders x) {
        x.night(x.count(0) == 1 ? 99 : x.count(0) == 2 ? 9999 : 999999);
        x.drawn(2, 5);
        int undone = x.undo() * 10 + x.undo();
        return new int[] {undone, x.count(6), x.brigade(0, 4), x.brigade(0, 5), x.rests(NONE), x.rests(0), x.most(0),
            x.most(1), x.loss(), x.laws(0), x.laws(1), x.bribe(), x.explain(NONE), x.explain(3), x.knocked(),
            x.ash(0, 0, 1), x.explain(NONE), x.knocked(), x.choice(), x.undo(), x.undo(), x.back()};
    }

    private void rulesTaken() {
        doc.says(5, "a RULE: its number.");
        ThreeLadders x = new ThreeLadders();
        for (int n = 0; n < 4; n++) {
            Due.is("a rule", Due.addRule(x, "y:" + n), n);
            Due.is("the tape is empty", x.count(3), 0);
            Due.is("rules", x.count(2), n + 1);
        }
        doc.says(5, "there are four");
        Due.is("a fifth", Due.addRule(x, "y:4"), NONE);
        Due.is("four", x.count(2), 4);
        Due.is("the tape stays", x.count(3), 3);
        Due.is("and is fine", x.fault(1), NONE);
        Due.tape(x, "w;b");
        Due.is("a front may be told all the same", x.text(0), 1);
        Due.is("and another one", Due.addRule(x, "y:4"), NONE);
        Due.is("four stay", x.count(2), 4);
    }

    private void textsRefused() {
        doc.says(5, "NONE: a FAULT");
        ThreeLadders x = Due.front("wx3;b;b");
        x.night(9999);
        for (String wrong : new String[] {"", "w", "w;b;", "w;b~", "y:1"}) {
            Due.tape(x, wrong);
            Due.is("as a front: '" + wrong + "'", x.text(0), NONE);
            Due.is("the tape stays", x.count(3), wrong.length());
        }
        for (String wrong : new String[] {"", "y", "y:", "y:1;", "w;b"}) {
            Due.tape(x, wrong);
            Due.is("as a rule: '" + wrong + "'", x.text(1), NONE);
            Due.is("the tape stays", x.count(3), wrong.length());
        }
        Due.is("the front stays", x.count(0) * 10 + x.window(0, 0), 23);
        Due.is("its nights stay", x.count(4), 1);
        Due.is("no rules", x.count(2), 0);
        doc.says(5, "no such sort");
        for (String text : new String[] {"w;b", "y:1"}) {
            Due.tape(x, text);
            for (int sort : new int[] {-2, -1, 2, 3, Integer.MIN_VALUE, Integer.MAX_VALUE}) {
                Due.is("text(" + sort + ")", x.text(sort), NONE);
                Due.is("the tape stays", x.count(3), 3);
            }
        }
    }

    /** Twenty bytes at most by one call, zeros where the text has them. */
    private static int feed(ThreeLadders x, String text) {
        int[] five = new int[5];
        for (int i = 0; i < text.length(); i++) {
            five[i / 4] |= text.charAt(i) << (24 - 8 * (i % 4));
        }
        return x.feed(five[0], five[1], five[2], five[3], five[4]);
    }

    private static int fedFault(String text) {
        ThreeLadders x = new ThreeLadders();
        feed(x, text);
        return x.fault(0);
    }

    private static ThreeLadders blanks(int n) {
        ThreeLadders x = new ThreeLadders();
        Due.tape(x, " ".repeat(n));
        return x;
    }
}

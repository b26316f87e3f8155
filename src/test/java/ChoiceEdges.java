/** Edges of what is best, of rests and laws, of rules, of ashes and of ladders joined; promises 15 to 27. */
final class ChoiceEdges {
    private static final int NONE = ThreeLadders.NONE;
    private static final int HIDDEN = ThreeLadders.HIDDEN;
    private static final int LEAST = Integer.MIN_VALUE;
    private static final int GREATEST = Integer.MAX_VALUE;
    /** Who comes last to a place finds a better one: by no sharing and no small pay any row rests. */
    private static final String RESTLESS = "wx3h1c1f11;ba0n4p2;ba0n2p1;";

    private final Sentences doc;

    ChoiceEdges(Sentences doc) {
        this.doc = doc;
    }

    void run() {
        bests();
        bestsRefused();
        rests();
        mosts();
        losses();
        laws();
        bribes();
        worths();
        wholeRules();
        choices();
        letters();
        ashes();
        explains();
        knocked();
        joined();
        reach();
        alone();
    }

    private void bests() {
        doc.says(0, "the PUT with the greatest GAIN (of several the least; 99 last); how much");
        ThreeLadders x = Due.front("wh2c9f9;wx1h1c4f9;b;b");
        // to window 0 visits at 3, 7; to window 1 at 2, 4, 6, 8 from every place
        best(x, 9999, 0, 1, 40);
        best(x, 199, 1, 11, 20);
        best(x, 9901, 0, 1, 40);
        ThreeLadders one = Due.front("wh1;b");
        best(one, 99, 0, 0, 10);
        one.change(1, 9);
        best(one, 99, 0, 0, 10);
        one.change(1, 10);
        best(one, 99, 0, 0, 10);
        one.change(1, 11);
        best(one, 0, 0, 99, 11);
        best(Due.front("wh9;bn8"), 99, 0, 99, 0);
        best(Due.front("wc0;b"), 99, 0, 0, 0);
        // it has no put but one by which it crosses the other one
        ThreeLadders fined = Due.front("wx2h3c0;wx1h4c0;bn3;bn5;lk5");
        Due.is("its gain", fined.told(2031, 0, 1), -5);
        best(fined, 2031, 0, 99, 0);
        fined.change(2, 0);
        best(fined, 2031, 0, 20, 0);
        // on a place that is taken it stands back as well, and that put is the lower one
        ThreeLadders taken = Due.front("wx1h1c1f60;b;ba9;ls3");
        best(taken, 0, 1, 0, 3);
        best(taken, 1000, 1, 10, 3);
        doc.says(15, "BEST: the PUT (0), how much (1).");
        best(taken, 9999, 1, 0, 10);
        doc.says(15, "(The row's own PUT of that BRIGADE is not looked at, but it must be one that may be.)");
        ThreeLadders own = Due.front("wx2h3;bn3;bn4");
        best(own, 2099, 0, 20, 10);
        best(own, 9999, 0, 20, 10);
        for (int put : new int[] {0, 10, 30, 21, 60, 98}) {
            Due.is("its own put " + put, own.best(put * 100 + 99, 0, 0), HIDDEN);
            Due.is("its own put " + put, own.best(put * 100 + 99, 0, 1), HIDDEN);
            Due.is("the other's put " + put, own.best(put * 100 + 99, 1, 0), HIDDEN);
        }
        Due.is("its own put 50", own.best(9950, 1, 0), HIDDEN);
        Due.is("its own put 10", own.best(9910, 1, 0), 0);
    }

    private static void best(ThreeLadders x, int row, int brigade, int put, int gain) {
        Due.is("best(" + row + ", " + brigade + ", 0)", x.best(row, brigade, 0), put);
        Due.is("best(" + row + ", " + brigade + ", 1)", x.best(row, brigade, 1), gain);
    }

    private void bestsRefused() {
        doc.says(15, "HIDDEN: no such ones.");
        ThreeLadders x = Due.front("w;b;b");
        for (int wrong : new int[] {-1, 2, 3, LEAST, GREATEST}) {
            Due.is("best(0, " + wrong + ", 0)", x.best(0, wrong, 0), HIDDEN);
            Due.is("best(0, 0, " + wrong + ")", x.best(0, 0, wrong), HIDDEN);
        }
        for (int wrong : new int[] {-1, 1, 60, 100, 98, 10000, 9900 + 98, LEAST, GREATEST}) {
            Due.is("best(" + wrong + ", 0, 0)", x.best(wrong, 0, 0), HIDDEN);
            Due.is("best(" + wrong + ", 1, 1)", x.best(wrong, 1, 1), HIDDEN);
        }
        Due.is("no front", new ThreeLadders().best(0, 0, 0), HIDDEN);
        Due.is("no front", new ThreeLadders().best(99, 0, 1), HIDDEN);
    }

    private static void restsAre(ThreeLadders x, int... rows) {
        Due.is("how many", x.rests(NONE), rows.length);
        for (int i = 0; i < rows.length; i++) {
            Due.is("rests(" + i + ")", x.rests(i), rows[i]);
        }
        for (int wrong : new int[] {-2, rows.length, rows.length + 1, LEAST, GREATEST}) {
            Due.is("rests(" + wrong + ")", x.rests(wrong), NONE);
        }
    }

    /** Rests by the words of the document: of each row, whether somebody's best is more than what it has. */
    private static void lookedFor(String front) {
        int rows = Due.front(front).explain(NONE);
        int found = 0;
        for (int i = 0; i < rows; i++) {
            ThreeLadders x = Due.front(front);
            int row = x.explain(i);
            boolean rests = true;
            for (int b = 0; b < x.count(0); b++) {
                rests &= x.told(row, b, 1) == x.best(row, b, 1);
            }
            if (rests) {
                Due.is("rest of '" + front + "'", x.rests(found), row);
                found++;
            }
        }
        Due.is("rests of '" + front + "'", Due.front(front).rests(NONE), found);
    }

    private void rests() {
        doc.says(0, "rows of PUTS by which none has more by another PUT alone: how many, the i-th (rising)");
        ThreeLadders x = Due.front("wh1;bn1");
        restsAre(x, 0);
        x.change(1, 9);
        restsAre(x, 0);
        x.change(1, 10);
        restsAre(x, 0, 99);
        x.change(1, 11);
        restsAre(x, 99);
        x.change(1, 0);
        x.change(0, 0);
        restsAre(x, 0, 99);
        restsAre(Due.front("wh9;bn1;bn1;bn1"), 999999);
        // 1 comes too late for the child: it does not matter what it does
        restsAre(Due.front("wh1;bn1;ba1n2"), 0, 10, 99);
        lookedFor("wx2h1c2f9;wx3h1c1f9;bn2;bn1;ba1n1;lk3s2");
        lookedFor("wx2h1c2f9;wx3h1c1f9;bn2;bn1;ba1n1;lk3s2q1");
        lookedFor("wx2h1c2f9;wx3h1c1f9;bn2;bn1;ba1n1;lk3s2q2");
        lookedFor("wx1h1c3f9;wx4h2c2f12;bn2;ba1n2p2;lk30s9q1");
        doc.says(16, "RESTS: how many (i NONE), the i-th.");
        restsAre(Due.front("wh1;bn1;bn1"), 0, 99);
        doc.says(16, "NONE: no such one");
        restsAre(Due.front(RESTLESS + "lk2s2"));
        doc.says(16, "no FRONT");
        Due.is("how many", new ThreeLadders().rests(NONE), NONE);
        Due.is("the first", new ThreeLadders().rests(0), NONE);
    }

    private void mosts() {
        doc.says(0, "MOST: of all rows that by which most are SAVED (of several the least); how many.");
        most(Due.front("wh1;b"), 0, 1);
        most(Due.front("wc0;b;b;b"), 0, 0);
        most(Due.front("wh9;bn8;bn8"), 9999, 0);
        most(Due.front("wx5h1;bn1"), 50, 1);
        most(Due.front("wx1h1c9f60;wx2h1c9f60;wx3h1c9f60;wx4h1c9f60;b;b;b"), 1122, 27);
        most(Due.front("wh2c2f9;wx5h2c2f9;bn2;bn2"), 51, 4);
        doc.says(17, "MOST: the row (0), how many (1).");
        ThreeLadders x = Due.front("wh1;b;ls99k99q2");
        most(x, 0, 1);
        doc.says(17, "no such what");
        for (int wrong : new int[] {-1, 2, 3, LEAST, GREATEST}) {
            Due.is("most(" + wrong + ")", x.most(wrong), NONE);
        }
        doc.says(17, "NONE: no FRONT");
        Due.is("the row", new ThreeLadders().most(0), NONE);
        Due.is("how many", new ThreeLadders().most(1), NONE);
    }

    private static void most(ThreeLadders x, int row, int saved) {
        Due.is("the row", x.most(0), row);
        Due.is("how many", x.most(1), saved);
    }

    private void losses() {
        doc.says(0, "MOST less what is SAVED in the worst REST (none: HIDDEN)");
        ThreeLadders x = Due.front("wh1c3f60;bn1");
        Due.is("nothing is lost", x.loss(), 0);
        x.change(1, 29);
        Due.is("nothing is lost", x.loss(), 0);
        x.change(1, 30);
        Due.is("the worst of two", x.loss(), 3);
        x.change(1, 31);
        Due.is("all is lost", x.loss(), 3);
        Due.is("nothing to lose", Due.front("wc0;b").loss(), 0);
        doc.says(18, "LOSS.");
        // only 0 with 1 at the far window saves all four; 0 likes the near one better
        Due.is("one of four", Due.front("wx2h2c3f6;wx0h1c3f12;ba2n2p1;ba0n1p2;lp11s1k14").loss(), 1);
        doc.says(18, "HIDDEN: no RESTS");
        Due.is("no rests", Due.front(RESTLESS + "lk2s2").loss(), HIDDEN);
        doc.says(18, "no FRONT");
        Due.is("no front", new ThreeLadders().loss(), HIDDEN);
    }

    private static void lawsAre(ThreeLadders x, int sharing, int saved) {
        int before = x.law(3);
        Due.is("which", x.laws(0), sharing);
        Due.is("how many", x.laws(1), saved);
        Due.is("the law is as it was", x.law(3), before);
    }

    private void laws() {
        doc.says(0, "has the REST in which most are SAVED (of several the lowest; one without RESTS left out); how many");
        lawsAre(Due.front("wh1;b"), 0, 1);
        lawsAre(Due.front("wh1;bn1"), 0, 1);
        lawsAre(Due.front("wc0;b"), 0, 0);
        lawsAre(Due.front("wh1;b;ls99q2"), 0, 0);
        // three by 0, four by 1 and by 2
        lawsAre(Due.front("wx2h2c3f6;wx0h1c3f12;ba2n2p1;ba0n1p2;lp11s1k14q0"), 1, 4);
        // no rests by 0, two saved by 1 and by 2
        lawsAre(Due.front("wx2h2c1f7;wx5h1c2f12;ba2n2p3;ba0n2p3;lp19s5k10"), 1, 2);
        // no rests but by 2
        lawsAre(Due.front("wh1c3f13;ba0n2p3;ba2n2p1;lp16s11k12"), 2, 2);
        doc.says(0, "(0 .. 2; all else as it is)");
        ThreeLadders x = Due.front("wh1;b;lp5s5q1");
        lawsAre(x, 0, 1);
        x.change(1, 6);
        lawsAre(x, 0, 0);
        x.change(0, 6);
        lawsAre(x, 0, 1);
        doc.says(19, "LAWS: which (0), how many (1).");
        ThreeLadders by = Due.front("wh1c3f13;ba0n2p3;ba2n2p1;lp16s11k12q2");
        lawsAre(by, 2, 2);
        Due.is("rests by it", by.rests(NONE), 4);
        by.change(3, 0);
        Due.is("no rests by 0", by.rests(NONE), 0);
        by.change(3, 1);
        Due.is("no rests by 1", by.rests(NONE), 0);
        doc.says(19, "NONE: none has RESTS");
        lawsAre(Due.front(RESTLESS + "lk2s2"), NONE, NONE);
        doc.says(19, "no such what");
        for (int wrong : new int[] {-1, 2, 3, LEAST, GREATEST}) {
            Due.is("laws(" + wrong + ")", x.laws(wrong), NONE);
        }
        doc.says(19, "no FRONT");
        Due.is("which", new ThreeLadders().laws(0), NONE);
        Due.is("how many", new ThreeLadders().laws(1), NONE);
    }

    private void bribes() {
        doc.says(0, "the least pay for STANDING back (0 .. 99) with which there is a REST "
                + "in which as many are SAVED as in MOST");
        Due.is("none is needed", Due.front("wh1;b").bribe(), 0);
        Due.is("none is needed", Due.front("wh1;bn1").bribe(), 0);
        Due.is("none is needed, whatever is paid", Due.front("wh1;b;ls99").bribe(), 0);
        Due.is("nothing to be saved", Due.front("wc0;b").bribe(), 0);
        // one of the two has to be paid what the child is worth to it
        for (int pay : new int[] {0, 1, 2, 50, 98, 99}) {
            Due.is("as the pay, " + pay, Due.front(RESTLESS + "lp" + pay).bribe(), pay);
        }
        doc.says(20, "BRIBE.");
        ThreeLadders x = Due.front(RESTLESS + "lp20s7");
        Due.is("bribe", x.bribe(), 20);
        Due.is("the law is as it was", x.law(1), 7);
        Due.is("and so are the rests", x.rests(NONE), 0);
        x.change(1, 19);
        Due.is("one less is too little", x.rests(NONE), 0);
        x.change(1, 20);
        Due.is("so much is enough", x.rests(NONE) > 0 && x.bribe() == 20, true);
        x.change(0, 21);
        Due.is("by the pay that is now", x.bribe(), 21);
        x.image();
        x.change(0, 5);
        Due.is("by the pay that is now", x.bribe(), 5);
        x.back();
        Due.is("by the pay that is back", x.bribe(), 21);
        doc.says(20, "NONE: none");
        // two children are worth more than can be paid
        Due.is("too dear", Due.front("wx3h1c2f17;ba0n4p5;ba0n2p1;lp99").bribe(), NONE);
        Due.is("just", Due.front("wx3h1c2f17;ba0n4p5;ba0n2p1;lp49").bribe(), 98);
        Due.is("just not", Due.front("wx3h1c2f17;ba0n4p5;ba0n2p1;lp50").bribe(), NONE);
        doc.says(20, "no FRONT");
        Due.is("no front", new ThreeLadders().bribe(), NONE);
    }

    /** By a front with one put beside standing back: 0, if the worth is above 0. */
    private static boolean isTaken(String rule) {
        ThreeLadders x = Due.front("wh3c4f20;bn3");
        Due.is("rule " + rule, Due.addRule(x, rule), 0);
        x.rule(0, 0);
        int row = x.choice();
        Due.is("one of two rows by " + rule, row == 0 || row == 99, true);
        return row == 0;
    }

    private static void holds(String... conditions) {
        for (String one : conditions) {
            Due.is(one, isTaken("y:" + one + "?1"), true);
            Due.is("not " + one, isTaken("y:!(" + one + ")?1"), false);
        }
    }

    private void worths() {
        doc.says(0, "Behind each sign numbers are within -1,000,000 .. 1,000,000");
        String million = "1000*1000";
        holds(million + "=" + million, million + "-1<" + million, million + "+1=" + million, "1001*1000=" + million,
                "9999*9999=" + million, million + "*" + million + "=" + million, million + "-1=999*1000+999",
                million + "+1-1=999*1000+999", "9999*9999/9999=100", "9999*9999-9999*9999=0");
        holds("0-" + million + "-1=0-" + million, "[0-1000]*1001=0-" + million, "0-" + million + "+1=0-999*1000-999",
                "0-" + million + "-1+1=0-999*1000-999", "[0-1000]*1000-1=0-" + million, "0-" + million + "<0-999*1000-999", "[0-9999]*9999*9999=0-" + million,
                "[0-9999]*[0-9999]=" + million);
        doc.says(0, "/ cuts towards 0, by 0 gives 0");
        holds("7/2=3", "[0-7]/2=0-3", "7/[0-2]=0-3", "[0-7]/[0-2]=3", "1/2=0", "[0-1]/2=0", "9999/9999=1",
                "9998/9999=0", "5/0=0", "0/0=0", "[0-5]/0=0", "5/[1-1]=0", "5/0+1=1", "1/3*3=0", "20/3/2=3");
        doc.says(0, "SUM: TERMS with + or - between; TERM: ATOMS with * or / between");
        holds("20-3-2=15", "2+3*4=14", "2*3+4=10", "[2+3]*4=20", "10-[3-2]=9", "20-6/3=18", "7/2*2=6", "2*7/2=7");
        doc.says(0, "CONDITION: TRUTHS with | between; TRUTH: UNITS with & between");
        holds("1=1|1=2", "1=2|1=1", "1=1|1=1", "1=1&2=2", "1=1|1=2&1=2", "1=2&1=2|1=1", "(1=2|1=1)&2=2",
                "1=1&(1=2|2=2)", "1=1|1=1&1=2", "1=2|1=2|1=1", "1=1&1=1&1=1");
        doc.says(0, "UNIT: ! UNIT, ( CONDITION ), or SUM, one of = < >, SUM");
        holds("1<2", "2>1", "!1=2", "!1<1", "!1>1", "!2<1", "!1>2", "!!1=1", "!1=2&1=1", "!1=1|1=1", "!(1=1&1=2)",
                "((1=1))", "!!!!1=1", "0-1<0", "0>0-1");
        Due.is("six times not", isTaken("y:!!!!!!1=1?1"), true);
        Due.is("five times not", isTaken("y:!!!!!1=1?1"), false);
    }

    private void wholeRules() {
        doc.says(0, "the SUM of the first CLAUSE whose CONDITION holds (or has none), 0 without");
        Due.is("no condition", isTaken("y:1"), true);
        Due.is("the first of two", isTaken("y:0;y:1"), false);
        Due.is("the first of two", isTaken("y:1;y:0"), true);
        Due.is("the first holds", isTaken("y:1=1?0;y:1"), false);
        Due.is("the second holds", isTaken("y:1=2?0;y:1=1?1;y:0"), true);
        Due.is("the last has no condition", isTaken("y:1=2?0;y:1=2?0;y:1"), true);
        Due.is("none holds", isTaken("y:1=2?1;y:1=3?1"), false);
        Due.is("the longest text", isTaken("y:" + "0+".repeat(78) + " 1"), true);
        Due.is("the longest text", isTaken("y:" + "1-".repeat(78) + " 1"), false);
        Due.is("many clauses", isTaken("y:1=2?1;".repeat(19) + " y : 1 "), true);
        Due.is("many clauses", isTaken("y:1=2?1;".repeat(19) + " y : 0 "), false);
        Due.is("deep", isTaken("y:" + "1=2|1=1&(".repeat(6) + "1+1*1<2+2*2" + ")".repeat(6) + "?1"), true);
        Due.is("deep", isTaken("y:" + "1+1*[".repeat(6) + "0-6" + "]".repeat(6)), false);
        Due.is("deep", isTaken("y:" + "1+1*[".repeat(6) + "0-5" + "]".repeat(6)), true);
    }

    private static ThreeLadders ruled(String front, String... rules) {
        ThreeLadders x = Due.front(front);
        for (int n = 0; n < rules.length; n++) {
            Due.is("rule " + rules[n], Due.addRule(x, rules[n]), n);
            x.rule(n, n);
        }
        return x;
    }

    private void choices() {
        doc.says(0, "that with the greatest WORTH of its RULE above 0 (of several the least)");
        Due.is("1 is above 0", ruled("w;b", "y:1").choice(), 0);
        Due.is("the only one above 0", ruled("wx3h1;b", "y:1-d").choice(), 30);
        Due.is("the greatest", ruled("wx3h1;b", "y:9-d").choice(), 30);
        Due.is("two are the greatest", ruled("wx1h1;wx2h1;b", "y:9-d").choice(), 10);
        Due.is("all are", ruled("wx5h1;wx2h1;b", "y:7").choice(), 0);
        Due.is("of all that may be", ruled("wx2h3;bn3", "y:1").choice(), 20);
        Due.is("of all that may be", ruled("wx2h3;wx4h3;bn3", "y:c+1-d+f").choice(), 20);
        doc.says(0, "STANDS back, if none is above 0 or it has no RULE");
        Due.is("0", ruled("w;b", "y:0").choice(), 99);
        Due.is("below 0", ruled("w;b", "y:0-1").choice(), 99);
        Due.is("no rule", Due.front("w;b").choice(), 99);
        Due.is("no rules", Due.front("w;b;b;b").choice(), 999999);
        Due.is("no put", ruled("wh9;bn8", "y:1").choice(), 99);
        ThreeLadders x = ruled("w;b;b;b", "y:1", "y:1", "y:1");
        Due.is("all to the least", x.choice(), 0);
        x.rule(1, NONE);
        Due.is("1 has none", x.choice(), 9900);
        Due.is("nothing was played", x.count(4), 0);
        doc.says(21, "CHOICE: the row.");
        Due.is("0 the highest", ruled("wx5h1;bn1;bn1", "y:1").choice(), 5099);
        doc.says(21, "NONE: no FRONT.");
        ThreeLadders none = new ThreeLadders();
        Due.addRule(none, "y:1");
        Due.is("no front", none.choice(), NONE);
    }

    private void letters() {
        doc.says(0, "letters: d how far PLACE and COLUMN are apart, h HEIGHT, c CHILDREN, f FIRE");
        Due.is("5 is 3 from 2", ruled("wx2h1;b", "y:d").choice(), 50);
        Due.is("0 is 3 from 3", ruled("wx3h1;b", "y:d").choice(), 0);
        Due.is("0 apart", ruled("wx4h1;b", "y:d=0?1").choice(), 40);
        Due.is("5 apart", ruled("wx5h1;b", "y:d=5?1").choice(), 0);
        Due.is("height", ruled("wh1;wh3;wh2;b", "y:h").choice(), 1);
        Due.is("children", ruled("wc0;wc8;wc9;b", "y:c").choice(), 2);
        Due.is("no children", ruled("wc0;b", "y:c").choice(), 99);
        Due.is("fire", ruled("wf59;wf60;wf1;b", "y:f").choice(), 1);
        doc.says(0, "o how many BRIGADES ahead of it go to that WINDOW");
        String three = "wx0h1;wx1h1;b;b;b";
        Due.is("none ahead of 0", ruled(three, "y:1-o", "y:1", "y:1").choice(), 0);
        Due.is("not where 0 goes", ruled(three, "y:1", "y:1-o").choice(), 199);
        Due.is("where 0 goes", ruled(three, "y:d=1?1", "y:o").choice(), 10199);
        Due.is("where both go", ruled(three, "y:1", "y:1", "y:o-1").choice(), 0);
        Due.is("both go to one", ruled(three, "y:1", "y:o", "y:2-o").choice(), 1);
        Due.is("who stands back goes nowhere", ruled(three, "y:0", "y:1-o").choice(), 990099);
        for (int place = 0; place < 6; place++) {
            for (int window = 0; window < 4; window++) {
                aheadAt(place, window);
            }
        }
        doc.says(0, "k on how many of their PLACES these feet would be");
        Due.is("none ahead of 0", ruled(three, "y:1-k", "y:1", "y:1").choice(), 0);
        Due.is("not on that place", ruled(three, "y:1", "y:1-k").choice(), 1099);
        Due.is("on that place", ruled(three, "y:d", "y:k").choice(), 505099);
        Due.is("on both their places", ruled(three, "y:1", "y:1", "y:k-1").choice(), 0);
        Due.is("to another window too", ruled(three, "y:1", "y:k*2-o").choice(), 199);
        Due.is("who stands back has no place", ruled(three, "y:0", "y:1-k").choice(), 990099);
    }

    /** The brigade ahead gets to one window from one place alone, the other one to all from everywhere. */
    private static void aheadAt(int place, int window) {
        StringBuilder windows = new StringBuilder();
        for (int w = 0; w < 4; w++) {
            windows.append("wx").append(place).append(w == window ? "h3;" : "h4;");
        }
        int put = 10 * place + window;
        String front = windows + "bn3;bn12";
        Due.is("o to " + put, ruled(front, "y:1", "y:o=1?1").choice(), put * 100 + window);
        Due.is("not o to " + put, ruled(front, "y:1", "y:o=0?1").choice(), put * 100 + (window == 0 ? 1 : 0));
        Due.is("k on " + put, ruled(front, "y:1", "y:k=1?1").choice(), put * 100 + 10 * place);
        Due.is("not k on " + put, ruled(front, "y:1", "y:k=0?1").choice(), put * 100 + (place == 0 ? 10 : 0));
        String third = front + ";bn12";
        int both = put * 100 + put;
        String same = "y:o*k";
        Due.is("o of two", ruled(third, "y:1", same, "y:o=2?1").choice(), both * 100 + window);
        Due.is("k of two", ruled(third, "y:1", same, "y:k=2?1").choice(), both * 100 + 10 * place);
    }

    private void ashes() {
        doc.says(22, "a PLACE (sort 0; v 0, 1), a WINDOW (1; v 0 .. 9): how many there are.");
        ThreeLadders x = Due.front("w;w;b");
        Due.is("place 0", x.ash(0, 0, 0), 1);
        Due.is("place 5", x.ash(0, 5, 1), 2);
        Due.is("window 0", x.ash(1, 0, 0), 3);
        Due.is("window 1", x.ash(1, 1, 9), 4);
        doc.says(22, "NONE: no such ones");
        int[][] wrong = {{-1, 0, 0}, {2, 0, 0}, {LEAST, 0, 0}, {GREATEST, 0, 0}, {0, -1, 0}, {0, 6, 0},
            {0, LEAST, 0}, {0, GREATEST, 0}, {0, 0, -1}, {0, 0, 2}, {0, 0, LEAST}, {0, 0, GREATEST}, {1, -1, 0},
            {1, 2, 0}, {1, 3, 0}, {1, 4, 0}, {1, LEAST, 0}, {1, GREATEST, 0}, {1, 0, -1}, {1, 0, 10},
            {1, 0, LEAST}, {1, 0, GREATEST}};
        for (int[] one : wrong) {
            Due.is("ash(" + one[0] + ", " + one[1] + ", " + one[2] + ")", x.ash(one[0], one[1], one[2]), NONE);
            Due.is("still four", x.count(7), 4);
        }
        doc.says(22, "there are ten");
        for (int n = 5; n <= 10; n++) {
            Due.is("one more", x.ash(0, 1, 0), n);
        }
        Due.is("an eleventh", x.ash(0, 1, 0), NONE);
        Due.is("an eleventh", x.ash(1, 0, 0), NONE);
        Due.is("ten", x.count(7), 10);
        doc.says(22, "no FRONT");
        Due.is("a place", new ThreeLadders().ash(0, 0, 1), NONE);
        Due.is("a window", new ThreeLadders().ash(1, 0, 0), NONE);
    }

    private static void explained(ThreeLadders x, int... rows) {
        Due.is("how many", x.explain(NONE), rows.length);
        for (int i = 0; i < rows.length; i++) {
            Due.is("explain(" + i + ")", x.explain(i), rows[i]);
        }
        for (int wrong : new int[] {-2, rows.length, rows.length + 1, LEAST, GREATEST}) {
            Due.is("explain(" + wrong + ")", x.explain(wrong), NONE);
        }
    }

    private static ThreeLadders marked(String front, int[]... marks) {
        ThreeLadders x = Due.front(front);
        for (int[] one : marks) {
            Due.is("a mark", x.ash(one[0], one[1], one[2]) > 0, true);
        }
        return x;
    }

    private void explains() {
        doc.says(0, "a PLACE had feet (1) or not (0) (of a ladder that was put, FEET settled), "
                + "a WINDOW had so many SAVED; 10 at most");
        String two = "wh1;bn1;bn1";
        explained(Due.front(two), 0, 99, 9900, 9999);
        explained(marked(two, new int[] {0, 0, 1}), 0, 99, 9900);
        explained(marked(two, new int[] {0, 0, 0}), 9999);
        explained(marked(two, new int[] {0, 5, 0}), 0, 99, 9900, 9999);
        explained(marked(two, new int[] {0, 5, 1}));
        explained(marked(two, new int[] {1, 0, 1}), 0, 99, 9900);
        explained(marked(two, new int[] {1, 0, 0}), 9999);
        explained(marked(two, new int[] {1, 0, 2}));
        // both save one at it
        explained(marked("wx1h1c9f4;bn1;bn2", new int[] {1, 0, 2}), 1000, 1020);
        // the ladder that found no place is none that was put: nobody is at window 1
        String other = "wx2h1c2;wx2h1c1;bn1;bn1";
        explained(marked(other, new int[] {1, 1, 1}), 2120, 2121, 2199, 9921);
        explained(marked(other, new int[] {1, 1, 0}, new int[] {1, 0, 2}), 2020, 2021, 2099, 9920);
        doc.says(0, "EXPLAIN: rows by which all is so: how many, the i-th");
        explained(marked(two, new int[] {0, 0, 1}, new int[] {1, 0, 1}, new int[] {0, 0, 1}), 0, 99, 9900);
        explained(marked(two, new int[] {0, 0, 1}, new int[] {0, 0, 0}));
        explained(marked(two, new int[] {0, 0, 0}, new int[] {1, 0, 1}));
        doc.says(23, "EXPLAIN: how many (i NONE), the i-th.");
        ThreeLadders x = marked("wx0h1;wx5h1;bn1;bn1", new int[] {0, 5, 1});
        explained(x, 51, 5100, 5151, 5199, 9951);
        x.ash(1, 0, 1);
        explained(x, 51, 5100);
        ThreeLadders all = Due.front("wx0h1;wx2h1;wx3h1;wx5h1;bn12;bn12;bn12");
        Due.is("all rows there can be", all.explain(NONE), 25 * 25 * 25);
        Due.is("the least of them", all.explain(0), 0);
        Due.is("the last but one", all.explain(25 * 25 * 25 - 2), 999953);
        Due.is("the last of them", all.explain(25 * 25 * 25 - 1), 999999);
        Due.is("the greatest front has rests, none of them behind the last row",
                all.rests(NONE) > 0 && all.rests(all.rests(NONE) - 1) <= 999999, true);
        doc.says(23, "NONE: no such one");
        Due.is("none behind them", all.explain(25 * 25 * 25), NONE);
        x.image();
        x.ash(1, 0, 9);
        explained(x);
        x.back();
        explained(x, 51, 5100);
        doc.says(23, "no FRONT");
        Due.is("how many", new ThreeLadders().explain(NONE), NONE);
        Due.is("the first", new ThreeLadders().explain(0), NONE);
    }

    private void knocked() {
        doc.says(0, "KNOCKED: BRIGADES (bits) that CROSS somebody in all these rows");
        // 0 to column 0 from 0, 1 or 2, 1 to column 1 from 1 alone, 2 to column 5 from 5 alone
        ThreeLadders x = marked("wh3c1f60;wx1h5c1f60;wx5h1c1f60;bn4;bn5;bn1",
                new int[] {1, 0, 1}, new int[] {1, 1, 1}, new int[] {1, 2, 1});
        explained(x, 1152, 201152);
        Due.is("in one of two", x.knocked(), 0);
        x.ash(0, 2, 1);
        explained(x, 201152);
        Due.is("in the one that is left", x.knocked(), 3);
        doc.says(24, "KNOCKED, as bits (no such row: 0).");
        ThreeLadders first = marked("wx2h3c1f60;wx3h3c1f60;bn3;bn4",
                new int[] {1, 0, 1}, new int[] {1, 1, 1}, new int[] {0, 4, 1}, new int[] {0, 2, 0});
        Due.is("asked ahead of all else", first.knocked(), 3);
        first.image();
        first.ash(0, 0, 1);
        Due.is("no such row", first.knocked(), 0);
        first.back();
        Due.is("such a row again", first.knocked(), 3);
        x.ash(0, 2, 0);
        explained(x);
        Due.is("no such row", x.knocked(), 0);
        Due.is("no ashes", Due.front("wh3c1f60;wx1h5c1f60;bn4;bn5").knocked(), 0);
        ThreeLadders high = marked("wx2h3c1f60;wx3h3c1f60;bn1;bn3;bn4",
                new int[] {1, 0, 1}, new int[] {1, 1, 1}, new int[] {0, 4, 1}, new int[] {0, 2, 0});
        // window 0 by 2 from 4, window 1 by 1 from 3
        explained(high, 993140);
        Due.is("the two higher ones", high.knocked(), 6);
        doc.says(24, "NONE: no FRONT.");
        Due.is("no front", new ThreeLadders().knocked(), NONE);
    }

    private void joined() {
        doc.says(0, "as one of LENGTHS together less 1: WINDOWS (bits) that it REACHES from some PLACE");
        Due.is("5 and 5 less 1 get 9 high", Due.front("wh9;bn5;bn5").joined(0, 1), 1);
        Due.is("5 and 4 less 1 do not", Due.front("wh9;bn5;bn4").joined(0, 1), 0);
        Due.is("1 and 1 less 1 get 1 high", Due.front("wh1;wh2;bn1;bn1").joined(0, 1), 1);
        Due.is("the longest", Due.front("wh9;wx5h9;wx2h1;wx3h5;bn12;bn12").joined(1, 0), 15);
        Due.is("some", Due.front("wh9;wx5h2;wx2h7;wx3h6;bn3;bn4").joined(1, 0), 10);
        doc.says(25, "JOINED, as bits.");
        ThreeLadders x = Due.front("wx5h3;wh4;wh5;wh6;bn1;bn3;bn4");
        Due.is("3", x.joined(0, 1) * 100 + x.joined(1, 0), 101);
        Due.is("4", x.joined(0, 2) * 100 + x.joined(2, 0), 303);
        Due.is("6", x.joined(1, 2) * 100 + x.joined(2, 1), 1515);
        doc.says(25, "NONE: no such ones");
        for (int wrong : new int[] {-1, 3, 4, LEAST, GREATEST}) {
            Due.is("joined(0, " + wrong + ")", x.joined(0, wrong), NONE);
            Due.is("joined(" + wrong + ", 0)", x.joined(wrong, 0), NONE);
            Due.is("joined(" + wrong + ", " + wrong + ")", x.joined(wrong, wrong), NONE);
        }
        Due.is("no front", new ThreeLadders().joined(0, 1), NONE);
        Due.is("one brigade", Due.front("w;b").joined(0, 1), NONE);
        doc.says(25, "alike");
        for (int b = 0; b < 3; b++) {
            Due.is("joined(" + b + ", " + b + ")", x.joined(b, b), NONE);
        }
    }

    private void reach() {
        doc.says(0, "REACH of a BRIGADE: WINDOWS (bits) likewise.");
        ThreeLadders x = Due.front("wx5h9;wh8;wx2h1;wx3h2;bn9;bn8;bn1");
        Due.is("9 high", x.reach(0), 15);
        doc.says(26, "REACH, as bits.");
        Due.is("8 high", x.reach(1), 14);
        Due.is("1 high", x.reach(2), 4);
        Due.is("none", Due.front("wh9;bn8").reach(0), 0);
        doc.says(26, "NONE: no such one.");
        for (int wrong : new int[] {-1, 3, 4, LEAST, GREATEST}) {
            Due.is("reach(" + wrong + ")", x.reach(wrong), NONE);
        }
        Due.is("no front", new ThreeLadders().reach(0), NONE);
    }

    private static void alone(ThreeLadders x, int brigade, int saved, int put) {
        Due.is("alone(" + brigade + ", 0)", x.alone(brigade, 0), saved);
        Due.is("alone(" + brigade + ", 1)", x.alone(brigade, 1), put);
    }

    private void alone() {
        doc.says(0, "ALONE: how many a BRIGADE could save at most, all others STANDING back; "
                + "by which PUT (of several the least).");
        // to window 0 at 3, 7; to window 1 at 2, 4, 6, 8
        ThreeLadders x = Due.front("wh2c9f9;wx1h1c9f9;b;ba1;ba30;lp0s99k99q2");
        alone(x, 0, 4, 1);
        alone(x, 1, 3, 1);
        alone(x, 2, 0, 0);
        alone(Due.front("wx5h1c9f60;wx5h1c9f60;bn1"), 0, 9, 50);
        alone(Due.front("wc0;wf1;bn3"), 0, 0, 0);
        alone(Due.front("wc0;wx3;bn3"), 0, 1, 31);
        doc.says(27, "ALONE: how many (0), the PUT (1; 99: none REACHES).");
        alone(Due.front("wh9;wx2h9;bn8"), 0, 0, 99);
        alone(Due.front("wh9;wx2h8c0;bn8"), 0, 0, 21);
        doc.says(27, "NONE: no such ones.");
        for (int wrong : new int[] {-1, 3, 4, LEAST, GREATEST}) {
            Due.is("alone(" + wrong + ", 0)", x.alone(wrong, 0), NONE);
            Due.is("alone(" + wrong + ", 1)", x.alone(wrong, 1), NONE);
        }
        for (int wrong : new int[] {-1, 2, 3, LEAST, GREATEST}) {
            Due.is("alone(0, " + wrong + ")", x.alone(0, wrong), NONE);
        }
        Due.is("no front", new ThreeLadders().alone(0, 0), NONE);
        Due.is("no front", new ThreeLadders().alone(0, 1), NONE);
    }
}

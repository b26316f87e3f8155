/** Each promise by itself: ordinary inputs, the edges that the document names, wrong inputs. */
public final class PromisesTest {
    private static final int NONE = ThreeLadders.NONE;
    private static final int HIDDEN = ThreeLadders.HIDDEN;

    private PromisesTest() {
    }

    private static void newObject() {
        ThreeLadders x = new ThreeLadders();
        for (int what = 0; what < 8; what++) {
            Due.is("new: count(" + what + ")", x.count(what), 0);
        }
        Due.is("new: count(-1)", x.count(-1), HIDDEN);
        Due.noSuchBrigade(x, 0, 0);
        Due.is("new: window", x.window(0, 0), NONE);
        Due.is("new: law", x.law(0), NONE);
        Due.is("new: change", x.change(0, 1), false);
        Due.is("new: rule", x.rule(0, NONE), false);
        Due.is("new: reaches", x.reaches(0, 99), NONE);
        Due.is("new: told", x.told(99, 0, 0), HIDDEN);
        Due.is("new: all", x.all(0, 0), HIDDEN);
        Due.is("new: child", x.child(0, 0, 0), HIDDEN);
        Due.is("new: best", x.best(99, 0, 0), HIDDEN);
        Due.is("new: rests", x.rests(NONE), NONE);
        Due.is("new: most", x.most(1), NONE);
        Due.is("new: loss", x.loss(), HIDDEN);
        Due.is("new: laws", x.laws(1), NONE);
        Due.is("new: bribe", x.bribe(), NONE);
        Due.is("new: choice", x.choice(), NONE);
        Due.is("new: ash", x.ash(0, 0, 1), NONE);
        Due.is("new: explain", x.explain(NONE), NONE);
        Due.is("new: knocked", x.knocked(), NONE);
        Due.is("new: joined", x.joined(0, 1), NONE);
        Due.is("new: reach", x.reach(0), NONE);
        Due.is("new: alone", x.alone(0, 0), NONE);
        Due.is("new: night", x.night(0), NONE);
        Due.is("new: drawn", x.drawn(1, 0), NONE);
        Due.is("new: undo", x.undo(), NONE);
        Due.is("new: image", x.image(), NONE);
        Due.is("new: back", x.back(), NONE);
    }

    private static void feedAndEnd() {
        ThreeLadders x = new ThreeLadders();
        Due.is("feed nothing", x.feed(0, 0, 0, 0, 0), 0);
        Due.is("feed, bytes of 0 left out", x.feed(0x77003b00, 0, 0x62, 0, 0), 3);
        Due.is("the highest first: 'w;b'", x.fault(0), NONE);
        Due.is("end(3)", x.end(3), true);
        Due.is("end(4)", x.end(4), false);
        Due.is("end(-1)", x.end(-1), false);
        Due.is("end(1)", x.end(1), true);
        Due.is("'w' alone", x.fault(0), 1);
        Due.is("end(0)", x.end(0), true);
        for (int n = 1; n <= 8; n++) {
            Due.is("feed 20", x.feed(0x20202020, 0x20202020, -1, 0x20202020, 0x20202020), 20 * n);
        }
        Due.is("feed to 161", x.feed(0, 0, 0, 0, 1), NONE);
        Due.is("still 160", x.count(3), 160);
        Due.is("feed none to 160", x.feed(0, 0, 0, 0, 0), 160);
        Due.is("end(159)", x.end(159), true);
        Due.is("feed two to 159", x.feed(0x01000001, 0, 0, 0, 0), NONE);
        Due.is("still 159", x.count(3), 159);
        Due.is("feed one to 159", x.feed(0x00000100, 0, 0, 0, 0), 160);
        Due.is("a byte of 255 is wrong", x.fault(0), 8);
        for (int part = 0; part < 5; part++) {
            x.end(157);
            int[] f = new int[5];
            f[part] = 0x20202020;
            Due.is("four to 157, part " + part, x.feed(f[0], f[1], f[2], f[3], f[4]), NONE);
            Due.is("still 157", x.count(3), 157);
            x.end(156);
            Due.is("four to 156, part " + part, x.feed(f[0], f[1], f[2], f[3], f[4]), 160);
        }
    }

    private static void frontFaults() {
        Due.frontFault("", 0);
        Due.frontFault("   ", 3);
        Due.frontFault("w;b", NONE);
        Due.frontFault(" w x 5 h 09 ; b a 30 ; l q 2 ", NONE);
        Due.frontFault("w", 1);
        Due.frontFault("b;l", 3);
        Due.frontFault("w ; b ; ", 8);
        Due.frontFault("w;;b", 2);
        Due.frontFault("W;b", 0);
        Due.frontFault("wx;b", 2);
        Due.frontFault("wx", 2);
        Due.frontFault("w;bx", 3);
        Due.frontFault("w;b3", 3);
        Due.frontFault("wx5;b", NONE);
        Due.frontFault("wx6;b", 2);
        Due.frontFault("wx60;b", 3);
        Due.frontFault("wx600;b", 4);
        Due.frontFault("wx05;b", NONE);
        Due.frontFault("wx005;b", 4);
        Due.frontFault("wx0 5;b", 4);
        Due.frontFault("wx6 5;b", 2);
        Due.frontFault("wh0;b", 2);
        Due.frontFault("wh00;b", 3);
        Due.frontFault("wh10;b", 3);
        Due.frontFault("wc9;b", NONE);
        Due.frontFault("wf60;b", NONE);
        Due.frontFault("wf61;b", 3);
        Due.frontFault("w;ba30n12p5", NONE);
        Due.frontFault("w;ba31", 5);
        Due.frontFault("w;bn0", 4);
        Due.frontFault("w;bp0", 4);
        Due.frontFault("w;b;lp99s99k99q2", NONE);
        Due.frontFault("w;b;lp100", 8);
        Due.frontFault("w;b;lq3", 6);
        Due.frontFault("wx1x1;b", 3);
        Due.frontFault("wx1;wx1;b", NONE);
        Due.frontFault("w;w;w;w;b;b;b;l", NONE);
        Due.frontFault("w;w;w;w;b;w", 10);
        Due.frontFault("b;b;b;w;b", 8);
        Due.frontFault("l;w;b;l", 6);
    }

    private static void ruleFaults() {
        Due.ruleFault("", 0);
        Due.ruleFault("y", 1);
        Due.ruleFault("y:", 2);
        Due.ruleFault("y:1", NONE);
        Due.ruleFault(" y : d > 1 ? [ h - 2 ] * c ; y : 9999 ", NONE);
        Due.ruleFault("y:1;", 4);
        Due.ruleFault("y:1;1", 4);
        Due.ruleFault("y:1?2", 3);
        Due.ruleFault("y:1&2", 3);
        Due.ruleFault("y:1 2", 4);
        Due.ruleFault("y:12345", 6);
        Due.ruleFault("y:0000", NONE);
        Due.ruleFault("y:-1", 2);
        Due.ruleFault("y:d=1", 5);
        Due.ruleFault("y:d=1?", 6);
        Due.ruleFault("y:d=1=2?3", 5);
        Due.ruleFault("y:(d=1)?3", NONE);
        Due.ruleFault("y:(d=1)", 7);
        Due.ruleFault("y:(d)?3", 4);
        Due.ruleFault("y:(d=1)+1?3", 7);
        Due.ruleFault("y:d+1=2&!h=1|(c=1)?3", NONE);
        Due.ruleFault("y:![d]=1?3", NONE);
        Due.ruleFault("y:[d=1]?3", 4);
        Due.ruleFault("y:[d)", 4);
        Due.ruleFault("y:d=1?(2)", 6);
        Due.ruleFault("y:x", 2);
        Due.ruleFault("y:[[[[[[1]]]]]]", NONE);
        Due.ruleFault("y:[[[[[[[1]]]]]]]", 8);
        Due.ruleFault("y:!(!(!(d=1)))?1", NONE);
        Due.ruleFault("y:!(!(!([d]=1)))?1", 8);
        Due.ruleFault("y:!!!!!!d=1&!!!!!!d=[1]?1", 20);
        Due.ruleFault("y:!d=1&[[[[[[1]]]]]]=1?1", NONE);
        Due.ruleFault("y:" + "d+".repeat(78) + "dd", 159);
        Due.ruleFault("y:" + "d+".repeat(79), 160);
        Due.ruleFault("y:1;".repeat(39) + " y:1", NONE);
        ThreeLadders x = new ThreeLadders();
        Due.is("fault(-1)", x.fault(-1), -2);
        Due.is("fault(2)", x.fault(2), -2);
    }

    private static void texts() {
        ThreeLadders x = Due.front("w;b;b;lp7");
        Due.is("tape is empty", x.count(3), 0);
        for (int n = 0; n < 4; n++) {
            Due.is("text(1)", Due.addRule(x, "y:c"), n);
        }
        Due.is("a fifth rule", Due.addRule(x, "y:c"), NONE);
        Due.is("refused: tape stays", x.count(3), 3);
        Due.is("text(2)", x.text(2), NONE);
        Due.is("a fault as a front", x.text(0), NONE);
        Due.is("refused: front stays", x.count(0), 2);
        x.rule(1, 3);
        x.change(1, 4);
        x.ash(0, 0, 1);
        x.night(9999);
        x.image();
        Due.tape(x, "wx1;b;w;b;b");
        Due.is("text(0)", x.text(0), 3);
        Due.is("three brigades", x.count(0), 3);
        Due.is("two windows", x.count(1), 2);
        Due.is("rules stay", x.count(2), 4);
        Due.is("no nights", x.count(4), 0);
        Due.is("none undone", x.undo(), NONE);
        Due.is("no ashes", x.count(7), 0);
        Due.is("no image", x.back(), NONE);
        Due.is("another law", x.law(0), 10);
        Due.is("no standing pay", x.law(1), 0);
        Due.is("no rule of a brigade", x.brigade(1, 3), NONE);
        ThreeLadders y = new ThreeLadders();
        Due.is("a rule without a front", Due.addRule(y, "y:1"), 0);
    }

    private static void tellings() {
        ThreeLadders x = Due.front("wx5h9c0f60;w;b;ba3n12p5;lp1s2k3q1");
        int[] first = {5, 9, 0, 60};
        int[] second = {0, 3, 1, 30};
        int[] law = {1, 2, 3, 1};
        for (int what = 0; what < 4; what++) {
            Due.is("window(0)", x.window(0, what), first[what]);
            Due.is("window(1)", x.window(1, what), second[what]);
            Due.is("law", x.law(what), law[what]);
        }
        Due.is("window(2, 0)", x.window(2, 0), NONE);
        Due.is("window(-1, 0)", x.window(-1, 0), NONE);
        Due.is("window(0, 4)", x.window(0, 4), NONE);
        Due.is("window(0, -1)", x.window(0, -1), NONE);
        Due.is("law(4)", x.law(4), NONE);
        Due.is("law(-1)", x.law(-1), NONE);
        int[] one = {0, 6, 1, NONE, 0, 0};
        int[] other = {3, 12, 5, NONE, 0, 0};
        for (int what = 0; what < 6; what++) {
            Due.is("brigade(0)", x.brigade(0, what), one[what]);
            Due.is("brigade(1)", x.brigade(1, what), other[what]);
        }
        Due.noSuchBrigade(x, 2, 0);
        Due.noSuchBrigade(x, -1, 0);
        Due.noSuchBrigade(x, 0, 6);
        Due.noSuchBrigade(x, 0, -1);
        Due.is("change(0, 99)", x.change(0, 99), true);
        Due.is("change(0, 100)", x.change(0, 100), false);
        Due.is("change(1, -1)", x.change(1, -1), false);
        Due.is("change(3, 2)", x.change(3, 2), true);
        Due.is("change(3, 3)", x.change(3, 3), false);
        Due.is("change(-1, 0)", x.change(-1, 0), false);
        Due.is("changed", x.law(0), 99);
        Due.is("not changed", x.law(1), 2);
        Due.is("no such rule yet", x.rule(0, 0), false);
        Due.addRule(x, "y:1");
        Due.is("rule(0, 0)", x.rule(0, 0), true);
        Due.is("rule(1, 1)", x.rule(1, 1), false);
        Due.is("rule(0, -2)", x.rule(0, -2), false);
        Due.is("rule(2, 0)", x.rule(2, 0), false);
        Due.is("its rule", x.brigade(0, 3), 0);
        Due.is("rule(0, NONE)", x.rule(0, NONE), true);
        Due.is("its rule is gone", x.brigade(0, 3), NONE);
    }

    private static void reaching() {
        // 3 4 5: a ladder of 5 gets 3 aside at a height of 4, one of 4 does not
        ThreeLadders x = Due.front("wx3h4;wh9;bn5;bn4;bn1");
        Due.is("just", x.reaches(0, 0), 1);
        Due.is("too short", x.reaches(1, 20), 0);
        Due.is("straight up", x.reaches(1, 30), 1);
        Due.is("99", x.reaches(2, 99), 1);
        Due.is("no such window", x.reaches(0, 2), NONE);
        Due.is("no such place", x.reaches(0, 60), NONE);
        Due.is("no such put", x.reaches(0, -1), NONE);
        Due.is("98", x.reaches(0, 98), NONE);
        Due.is("no such brigade", x.reaches(3, 0), NONE);
        Due.is("reach(0)", x.reach(0), 1);
        Due.is("reach(2)", x.reach(2), 0);
        Due.is("reach(3)", x.reach(3), NONE);
        Due.is("reach(-1)", x.reach(-1), NONE);
        Due.is("5 and 4 less 1 is 8", x.joined(0, 1), 1);
        Due.is("5 and 1 less 1 is 5", x.joined(2, 0), 1);
        Due.is("4 and 1 less 1 is 4", x.joined(1, 2), 1);
        Due.is("alike", x.joined(1, 1), NONE);
        Due.is("no such", x.joined(0, 3), NONE);
        Due.is("no such", x.joined(-1, 0), NONE);
        ThreeLadders y = Due.front("wx3h4;wh9;bn5;bn5");
        Due.is("5 and 5 less 1 is 9", y.joined(0, 1), 3);
    }

    private static void playing() {
        // two windows; brigade 1 arrives first, 2 and 0 at once
        ThreeLadders x = Due.front("wx1h2c3f20;wx4h1c9f9;ba2;ba1p2;ba2;lp10s4k3");
        // all on place 2: brigade 1 has it
        int row = 202021;
        Due.is("who stands back", x.all(row, 9), 5);
        Due.is("its gain", x.told(row, 0, 1), 4);
        Due.is("its shake", x.told(row, 0, 2), NONE);
        Due.is("its climb", x.told(row, 0, 3), NONE);
        Due.is("saved by it", x.told(row, 0, 0), 0);
        Due.is("climb of 1: pace 2, height 2", x.told(row, 1, 3), 4);
        // visits at 1 + 1 + 4, 12 later and so on: 6, 14 and not 22
        Due.is("saved by 1", x.told(row, 1, 0), 2);
        Due.is("minute", x.child(row, 1, 0), 14);
        Due.is("whom", x.child(row, 1, 1), 1);
        Due.is("where", x.child(row, 1, 2), 0);
        Due.is("no third", x.child(row, 2, 0), HIDDEN);
        // of like ones the lower number: 0 and 2 on place 3
        Due.is("2 stands back", x.all(309930, 9), 6);
        // 0 from 4 to column 1, 1 from 3 to column 4: cross; 2 from 5 to column 4: 1 not (alike), 0 not (same order)
        row = 403151;
        Due.is("0 shakes", x.told(row, 0, 2), 1);
        Due.is("1 shakes", x.told(row, 1, 2), 1);
        Due.is("2 does not", x.told(row, 2, 2), 0);
        Due.is("climb of 0", x.told(row, 0, 3), 4);
        Due.is("climb of 1", x.told(row, 1, 3), 4);
        Due.is("climb of 2", x.told(row, 2, 3), 1);
        // at window 1 ahead of minute 9: brigade 2 at 4, 6, 8; brigade 1 at 6; at window 0: brigade 0 at 7, 15
        Due.is("saved by 2", x.told(row, 2, 0), 3);
        Due.is("saved by 1", x.told(row, 1, 0), 1);
        Due.is("saved by 0", x.told(row, 0, 0), 2);
        int[][] children = {{4, 2, 1}, {6, 1, 1}, {6, 2, 1}, {7, 0, 0}, {8, 2, 1}, {15, 0, 0}};
        for (int n = 0; n < children.length; n++) {
            for (int what = 0; what < 3; what++) {
                Due.is("child(" + n + ", " + what + ")", x.child(row, n, what), children[n][what]);
            }
        }
        Due.is("all", x.all(row, 0), 6);
        Due.is("window 0", x.all(row, 1), 2);
        Due.is("window 1", x.all(row, 2), 4);
        Due.is("nobody back", x.all(row, 9), 0);
        Due.is("gain with a fine", x.told(row, 0, 1), 17);
        Due.is("gain", x.told(row, 2, 1), 30);
        x.change(3, 1);
        Due.is("6 children by 3, less 3", x.told(row, 1, 1), 17);
        Due.is("6 children by 3", x.told(row, 2, 1), 20);
        Due.is("2 children by 1", x.told(202021, 1, 1), 20);
        x.change(0, 7);
        Due.is("7 times 5 by 2, cut", x.told(993151, 1, 1) * 100 + x.all(993151, 0), 1705);
        x.change(0, 10);
        x.change(3, 2);
        Due.is("2 was first", x.told(row, 2, 1), 30);
        Due.is("1 was not, and is fined", x.told(row, 1, 1), -3);
        Due.is("0 was first", x.told(row, 0, 1), 17);
        wrongRows(x, row);
    }

    private static void wrongRows(ThreeLadders x, int row) {
        for (int bad : new int[] {-1, 1000000 + row, 603151, 403251, 989999, Integer.MIN_VALUE, Integer.MAX_VALUE}) {
            Due.is("told, row " + bad, x.told(bad, 0, 0), HIDDEN);
            Due.is("all, row " + bad, x.all(bad, 0), HIDDEN);
            Due.is("child, row " + bad, x.child(bad, 0, 0), HIDDEN);
            Due.is("best, row " + bad, x.best(bad, 0, 0), HIDDEN);
            Due.is("night, row " + bad, x.night(bad), NONE);
        }
        Due.is("told of 3", x.told(row, 3, 0), HIDDEN);
        Due.is("told of -1", x.told(row, -1, 0), HIDDEN);
        Due.is("told 4", x.told(row, 0, 4), HIDDEN);
        Due.is("told -1", x.told(row, 0, -1), HIDDEN);
        Due.is("all 3", x.all(row, 3), HIDDEN);
        Due.is("all 8", x.all(row, 8), HIDDEN);
        Due.is("all 10", x.all(row, 10), HIDDEN);
        Due.is("all -1", x.all(row, -1), HIDDEN);
        Due.is("child -1", x.child(row, -1, 0), HIDDEN);
        Due.is("child 3", x.child(row, 0, 3), HIDDEN);
        Due.is("best of 3", x.best(row, 3, 0), HIDDEN);
        Due.is("best 2", x.best(row, 0, 2), HIDDEN);
    }

    private static void bests() {
        // one window, one child: from a place of its own brigade 1 comes too late for it
        ThreeLadders x = Due.front("wh1;bn1;ba1n2");
        Due.is("best of 0", x.best(9999, 0, 0), 0);
        Due.is("how much", x.best(9999, 0, 1), 10);
        Due.is("best of 1: none has more, the least", x.best(99, 1, 0), 0);
        Due.is("how much", x.best(99, 1, 1), 0);
        x.change(1, 3);
        Due.is("on a place that is taken it stands back as well", x.best(99, 1, 0), 0);
        Due.is("how much", x.best(99, 1, 1), 3);
        x.change(1, 11);
        Due.is("99 pays more", x.best(99, 0, 0), 99);
        Due.is("how much", x.best(99, 0, 1), 11);
        Due.is("the own put must be one", x.best(1099, 0, 0), HIDDEN);
    }

    private static void restsAndLaws() {
        // rows: brigade 0 by 0 or 99, brigade 1 by 0, 10 or 99
        ThreeLadders x = Due.front("wh1;bn1;ba1n2");
        Due.is("most", x.most(0), 0);
        Due.is("how many", x.most(1), 1);
        Due.is("most 2", x.most(2), NONE);
        Due.is("most -1", x.most(-1), NONE);
        Due.is("rests", x.rests(NONE), 3);
        Due.is("rests(0)", x.rests(0), 0);
        Due.is("rests(1)", x.rests(1), 10);
        Due.is("rests(2)", x.rests(2), 99);
        Due.is("rests(3)", x.rests(3), NONE);
        Due.is("rests(-2)", x.rests(-2), NONE);
        Due.is("loss", x.loss(), 0);
        x.change(1, 20);
        // now all stand back or lose their place to nobody
        Due.is("rests", x.rests(NONE), 1);
        Due.is("rests(0)", x.rests(0), 9999);
        Due.is("loss", x.loss(), 1);
        Due.is("laws", x.laws(0), 0);
        Due.is("laws", x.laws(1), 0);
        Due.is("laws(2)", x.laws(2), NONE);
        Due.is("bribe", x.bribe(), 0);
        Due.is("bribe leaves the law", x.law(1), 20);
        noRests();
        sharingMatters();
        bribed();
    }

    private static void noRests() {
        // 0 has every place on which 1 is; 1 is faster from every other one: they go round
        ThreeLadders x = Due.front("wx3h1c1f11;ba0n4p2;ba0n2p1;lk2q0s2");
        Due.is("no rests", x.rests(NONE), 0);
        Due.is("rests(0)", x.rests(0), NONE);
        Due.is("loss without rests", x.loss(), HIDDEN);
        Due.is("no law has rests", x.laws(0), NONE);
        Due.is("no law has rests", x.laws(1), NONE);
        Due.is("for 10 one of them stands back", x.bribe(), 10);
        x.change(1, 10);
        Due.is("so it does, but then both may as well", x.loss(), 1);
        Due.is("a bribe does not hang on the pay as it is", x.bribe(), 10);
    }

    private static void sharingMatters() {
        // only if the first has all, 1 leaves the window to 0
        ThreeLadders x = Due.front("wx2h1c2f9;ba0n4p1;ba1n4p1;lk1q0s1");
        Due.is("no rests", x.rests(NONE), 0);
        Due.is("laws", x.laws(0), 2);
        Due.is("laws", x.laws(1), 2);
        Due.is("laws leave the law", x.law(3), 0);
        x.change(3, 2);
        Due.is("rests there are", x.rests(NONE) > 0, true);
    }

    private static void bribed() {
        ThreeLadders x = Due.front("wx3h1c3f10;wx1h3c1f19;ba2n4p1;ba0n4p2;lk15q0s1");
        Due.is("no bribe does it", x.bribe(), NONE);
        Due.is("most", x.most(0), 1001);
        Due.is("most", x.most(1), 4);
        Due.is("by sharing", x.laws(0), 1);
        Due.is("by sharing", x.laws(1), 4);
        ThreeLadders y = Due.front("wh9;bn8;bn1");
        Due.is("nothing to be saved: least of all rows", y.most(0), 9999);
        Due.is("none", y.most(1), 0);
        Due.is("loss", y.loss(), 0);
        Due.is("bribe", y.bribe(), 0);
    }

    private static void choices() {
        ThreeLadders x = Due.front("wx2h3c2f9;wx4h1c5f40;b;bn3;bn3");
        Due.is("no rules", x.choice(), 999999);
        Due.addRule(x, "y:c*10-d");
        Due.addRule(x, "y:o>0?0;y:100-d-k*50");
        Due.addRule(x, "y:k+o-1");
        Due.addRule(x, "y:!h=3&(f<10|c>4)?[d-1]*0+7/2");
        x.rule(0, 0);
        Due.is("the greatest worth", x.choice(), 419999);
        x.rule(1, 0);
        x.rule(2, 1);
        Due.is("not to that window, straight up", x.choice(), 414120);
        x.rule(1, 2);
        x.rule(2, 2);
        // 1: on the same place to the same window; 2: the same again
        Due.is("o and k count", x.choice(), 414141);
        x.rule(0, NONE);
        Due.is("0 is not above 0", x.choice(), 999999);
        x.rule(0, 3);
        x.rule(2, 1);
        // 0: window 1 alone has a worth (3), the least put; 1: not on that place; 2: window 0 straight up
        Due.is("of several the least", x.choice(), 19920);
        Due.is("no night is played", x.count(4), 0);
    }

    /** By a front with one put beside standing back. */
    private static int chosenBy(String rule) {
        ThreeLadders x = Due.front("wx0h3c4f20;bn3");
        Due.is("rule " + rule, Due.addRule(x, rule), 0);
        x.rule(0, 0);
        return x.choice();
    }

    private static void worths() {
        String[] alike = {"9999*9999=9999*100+100", "0-9999*9999=0-9999*100-100",
            "7/2=3", "[0-7]/2=0-3", "5/0=0", "2+3*4=14", "[2+3]*4=20", "20/3/2=3", "20-3-2=15",
            "9999*9999/9999=100", "9999*100*[0-1]-500-9999=0-1000*1000", "h=3", "c=4", "f=20", "d=0", "o=0", "k=0",
            "9999*9999-1=999*1000+999", "1000*1000+1-1=9999*100+99"};
        for (String one : alike) {
            Due.is(one, chosenBy("y:" + one + "?1"), 0);
        }
        String[] holds = {"1<2", "2>1", "!1=2", "!!1=1", "1=2|1=1", "1=1&2=2", "1=1|1=2&1=2", "!(1=1&1=2)",
            "!1=2&1=1", "(1=2|1=1)&2=2"};
        for (String one : holds) {
            Due.is(one, chosenBy("y:" + one + "?1"), 0);
        }
        String[] fails = {"1=2", "2<2", "2>2", "!1=1", "1=1&1=2", "(1=1|1=2)&1=2", "!(1=2|1=1)", "!1=1|1=2"};
        for (String one : fails) {
            Due.is(one, chosenBy("y:" + one + "?1"), 99);
        }
        Due.is("the first clause that holds", chosenBy("y:1=1?0;y:5"), 99);
        Due.is("the next one", chosenBy("y:1=2?0;y:5"), 0);
        Due.is("none holds", chosenBy("y:1=2?5;y:1=3?6"), 99);
        Due.is("all of 160 bytes are reckoned", chosenBy("y:" + "0+".repeat(78) + " 1"), 0);
        Due.is("forty clauses", chosenBy("y:1=2?1;".repeat(19) + " y : 1 "), 0);
        Due.is("below 0", chosenBy("y:1-2"), 99);
    }

    private static void ashes() {
        ThreeLadders x = Due.front("wx1h1c2f9;wx3h1c1f9;bn2;bn2;ba5n1p5");
        int rows = 7 * 7 * 3;
        Due.is("all rows", x.explain(NONE), rows);
        Due.is("the least", x.explain(0), 10);
        Due.is("the last", x.explain(rows - 1), 999999);
        Due.is("none behind", x.explain(rows), NONE);
        Due.is("explain(-2)", x.explain(-2), NONE);
        Due.is("none surely", x.knocked(), 0);
        Due.is("a place", x.ash(0, 2, 1), 1);
        Due.is("its rows are with 2", x.explain(0), 2010);
        Due.is("none saved at 1", x.ash(1, 1, 0), 2);
        Due.is("feet", x.ash(0, 3, 1), 3);
        Due.is("ash(2, 0, 0)", x.ash(2, 0, 0), NONE);
        Due.is("ash(-1, 0, 0)", x.ash(-1, 0, 0), NONE);
        Due.is("ash(0, 6, 0)", x.ash(0, 6, 0), NONE);
        Due.is("ash(0, -1, 0)", x.ash(0, -1, 0), NONE);
        Due.is("ash(0, 0, 2)", x.ash(0, 0, 2), NONE);
        Due.is("ash(1, 2, 0)", x.ash(1, 2, 0), NONE);
        Due.is("ash(1, 0, 10)", x.ash(1, 0, 10), NONE);
        Due.is("ash(1, 0, -1)", x.ash(1, 0, -1), NONE);
        Due.is("ash(1, 0, 9)", x.ash(1, 0, 9), 4);
        Due.is("nine were never there", x.explain(NONE), 0);
        Due.is("no row", x.explain(0), NONE);
        Due.is("no row: nobody", x.knocked(), 0);
        for (int n = 5; n <= 10; n++) {
            Due.is("the same again", x.ash(0, 2, 1), n);
        }
        Due.is("an eleventh", x.ash(0, 2, 1), NONE);
        Due.is("ten", x.count(7), 10);
        knockers();
    }

    private static void knockers() {
        // 0 gets to column 0 alone, 1 to column 1 alone: with feet on 0 and 1 they may or may not cross
        ThreeLadders x = Due.front("wx0h3c1f60;wx1h5c1f60;wx5h1c1f60;bn4;bn5;bn1");
        x.ash(1, 0, 1);
        x.ash(1, 1, 1);
        x.ash(1, 2, 1);
        // brigade 2 has put to 52, 1 to 11 (5 straight up); 0 at 00, 10 is lost or had, 20: crosses 1
        Due.is("rows", x.explain(NONE), 2);
        Due.is("first", x.explain(0), 1152);
        Due.is("second", x.explain(1), 201152);
        Due.is("not surely", x.knocked(), 0);
        x.ash(0, 0, 0);
        Due.is("one is left", x.explain(NONE), 1);
        Due.is("they surely did", x.knocked(), 3);
        x.image();
        x.ash(0, 2, 0);
        Due.is("none is left", x.explain(NONE), 0);
        x.back();
        Due.is("one again", x.explain(NONE), 1);
        Due.is("they again", x.knocked(), 3);
    }

    private static void alones() {
        // window 0 is low but early on fire: 2 saved; window 1 is high: 3 saved
        ThreeLadders x = Due.front("wx2h2c9f9;wx3h4c3f60;bn5;bn2;bn1;lq1p0");
        Due.is("most alone", x.alone(0, 0), 3);
        Due.is("the least put", x.alone(0, 1), 1);
        Due.is("no window but 0", x.alone(1, 0), 2);
        Due.is("straight up", x.alone(1, 1), 20);
        Due.is("reaches none", x.alone(2, 0), 0);
        Due.is("reaches none", x.alone(2, 1), 99);
        Due.is("alone(3)", x.alone(3, 0), NONE);
        Due.is("alone(-1)", x.alone(-1, 0), NONE);
        Due.is("alone what", x.alone(0, 2), NONE);
        Due.is("alone what", x.alone(0, -1), NONE);
        ThreeLadders y = Due.front("wc0;wf1;b");
        Due.is("none to be saved", y.alone(0, 0), 0);
        Due.is("the least put all the same", y.alone(0, 1), 0);
    }

    private static void nights() {
        ThreeLadders x = Due.front("wh1c2f9;b;ba1;lp10s3");
        // 0 at 2, 1 at 3
        Due.is("a night", x.night(10), 1);
        Due.is("saved by 0", x.brigade(0, 4), 1);
        Due.is("saved by 1", x.brigade(1, 4), 1);
        x.change(0, 20);
        Due.is("another", x.night(99), 2);
        Due.is("saved by 0", x.brigade(0, 4), 3);
        Due.is("gains of 0 by the law as it was", x.brigade(0, 5), 50);
        Due.is("gains of 1", x.brigade(1, 5), 13);
        Due.is("in all", x.count(6), 4);
        x.change(0, 0);
        Due.is("undo", x.undo(), 1);
        Due.is("as it was played", x.brigade(0, 5), 10);
        Due.is("gains of 1", x.brigade(1, 5), 10);
        Due.is("in all", x.count(6), 2);
        for (int n = 2; n <= 45; n++) {
            Due.is("night", x.night(9999), n);
            Due.is("can be undone", x.count(5), Math.min(n, 40));
        }
        for (int n = 44; n >= 5; n--) {
            Due.is("undo", x.undo(), n);
        }
        Due.is("40 at most", x.undo(), NONE);
        Due.is("five stay", x.count(4), 5);
        Due.is("none can be undone", x.count(5), 0);
        Due.is("gains of those that stay", x.brigade(1, 5), 10 + 4 * 3);
        Due.is("and then", x.night(9999), 6);
        Due.is("one", x.count(5), 1);
    }

    private static void drawings() {
        ThreeLadders x = Due.front("wx2h1c9f60;bn12;bn12");
        long seed = 0;
        int[] saved = new int[2];
        ThreeLadders y = Due.front("wx2h1c9f60;bn12;bn12");
        for (int n = 0; n < 40; n++) {
            int row = 0;
            for (int b = 0; b < 2; b++) {
                seed = seed * 6364136223846793005L + 1442695040888963407L;
                int draw = (int) ((seed >>> 33) % 28);
                row = row * 100 + (draw / 4 == 6 || draw % 4 != 0 ? 99 : draw / 4 * 10);
            }
            Due.is("such a row", y.night(row), n + 1);
            saved[0] = y.brigade(0, 4);
            saved[1] = y.brigade(1, 4);
        }
        Due.is("drawn(0)", x.drawn(0, 0), NONE);
        Due.is("drawn(41)", x.drawn(41, 0), NONE);
        Due.is("drawn(-1)", x.drawn(-1, 0), NONE);
        Due.is("none yet", x.count(4), 0);
        Due.is("drawn(40)", x.drawn(40, 0), 40);
        Due.is("saved by 0", x.brigade(0, 4), saved[0]);
        Due.is("saved by 1", x.brigade(1, 4), saved[1]);
        Due.is("gains of 0", x.brigade(0, 5), y.brigade(0, 5));
        Due.is("some were saved", saved[0] > 0 && saved[1] > 0, true);
        Due.is("drawn(1)", x.drawn(1, -5), 41);
        Due.is("can be undone", x.count(5), 40);
    }

    private static void images() {
        ThreeLadders x = Due.front("wh1c2f9;b;ba1;lp10s3");
        Due.addRule(x, "y:c");
        Due.is("no image", x.back(), NONE);
        x.night(10);
        x.rule(1, 0);
        x.ash(0, 0, 1);
        Due.is("image", x.image(), 1);
        x.night(99);
        x.night(99);
        x.rule(1, NONE);
        x.rule(0, 0);
        x.change(2, 9);
        x.ash(0, 0, 0);
        Due.addRule(x, "y:1");
        Due.tape(x, "w");
        for (int twice = 0; twice < 2; twice++) {
            Due.is("back", x.back(), 1);
            Due.is("nights", x.count(4), 1);
            Due.is("to be undone", x.count(5), 1);
            Due.is("saved", x.count(6), 2);
            Due.is("gains", x.brigade(0, 5), 10);
            Due.is("ashes", x.count(7), 1);
            Due.is("law", x.law(2), 0);
            Due.is("rule of 0", x.brigade(0, 3), NONE);
            Due.is("rule of 1", x.brigade(1, 3), 0);
            Due.is("undo", x.undo(), 0);
            Due.is("undone", x.count(6), 0);
            Due.is("no more", x.undo(), NONE);
        }
        Due.is("rules are no part of it", x.count(2), 2);
        Due.is("nor is the tape", x.count(3), 1);
        Due.is("another image", x.image(), 0);
        x.night(99);
        Due.is("back to that", x.back(), 0);
        x.change(1, 99);
        Due.is("nobody works", x.rests(NONE), 1);
        x.back();
        Due.is("rests by the law that is back", x.rests(NONE) == 1 && x.rests(0) == 9999, false);
    }

    private static void counts() {
        ThreeLadders x = Due.front("w;w;w;b;b");
        Due.is("brigades", x.count(0), 2);
        Due.is("windows", x.count(1), 3);
        Due.addRule(x, "y:1");
        Due.is("rules", x.count(2), 1);
        x.feed(0x77000000, 0, 0, 0, 0);
        Due.is("tape", x.count(3), 1);
        x.ash(0, 1, 1);
        Due.is("ashes", x.count(7), 1);
        Due.is("count(8)", x.count(8), HIDDEN);
        Due.is("count(-1)", x.count(-1), HIDDEN);
        Due.is("NONE", NONE, -1);
        Due.is("HIDDEN", HIDDEN, -1000000);
    }

    public static void main(String[] args) {
        newObject();
        feedAndEnd();
        frontFaults();
        ruleFaults();
        texts();
        tellings();
        reaching();
        playing();
        bests();
        restsAndLaws();
        choices();
        worths();
        ashes();
        alones();
        nights();
        drawings();
        images();
        counts();
        Due.end("PromisesTest");
    }
}

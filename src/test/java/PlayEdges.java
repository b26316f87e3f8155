/** Edges of what is told and of one row: puts, feet, crossing, visits, gains; promises 6 to 14. */
final class PlayEdges {
    private static final int NONE = ThreeLadders.NONE;
    private static final int HIDDEN = ThreeLadders.HIDDEN;
    private static final int LEAST = Integer.MIN_VALUE;
    private static final int GREATEST = Integer.MAX_VALUE;

    private final Sentences doc;

    PlayEdges(Sentences doc) {
        this.doc = doc;
    }

    void run() {
        brigades();
        windows();
        laws();
        changes();
        rulesOfBrigades();
        puts();
        rows();
        feet();
        crossing();
        climbs();
        visits();
        byMinutes();
        gains();
        toldRefused();
        allRefused();
        childRefused();
    }

    private void brigades() {
        doc.says(6, "Of a BRIGADE: 0 ARRIVES, 1 LENGTH, 2 PACE, 3 its RULE (NONE), 4 SAVED in NIGHTS, 5 GAINS in NIGHTS.");
        ThreeLadders x = Due.front("wc2;ba30n12p5;ba3n6p2;b;ls7");
        int[][] told = {{30, 12, 5, NONE, 0, 0}, {3, 6, 2, NONE, 0, 0}, {0, 6, 1, NONE, 0, 0}};
        for (int b = 0; b < 3; b++) {
            for (int what = 0; what < 6; what++) {
                Due.is("brigade(" + b + ", " + what + ")", x.brigade(b, what), told[b][what]);
            }
        }
        Due.addRule(x, "y:1");
        x.rule(2, 0);
        x.night(999900);
        Due.is("its rule", x.brigade(2, 3), 0);
        Due.is("saved", x.brigade(2, 4), 2);
        Due.is("gains", x.brigade(2, 5), 20);
        Due.is("another one", x.brigade(1, 4) * 100 + x.brigade(1, 5), 7);
        doc.says(6, "NoSuchElementException: no such ones.");
        for (int wrong : new int[] {-1, 3, 4, LEAST, GREATEST}) {
            for (int what = 0; what < 6; what++) {
                Due.noSuchBrigade(x, wrong, what);
            }
        }
        for (int wrong : new int[] {-1, 6, 7, LEAST, GREATEST}) {
            Due.noSuchBrigade(x, 0, wrong);
            Due.noSuchBrigade(x, 3, wrong);
        }
        ThreeLadders none = new ThreeLadders();
        for (int what = 0; what < 6; what++) {
            Due.noSuchBrigade(none, 0, what);
            Due.noSuchBrigade(Due.front("w;b"), 1, what);
        }
    }

    private void windows() {
        doc.says(7, "Of a WINDOW: 0 COLUMN, 1 HEIGHT, 2 CHILDREN, 3 FIRE.");
        ThreeLadders x = Due.front("wx5h9c9f60;w;wx0h1c0f1;wx2h2c2f2;b");
        int[][] told = {{5, 9, 9, 60}, {0, 3, 1, 30}, {0, 1, 0, 1}, {2, 2, 2, 2}};
        for (int w = 0; w < 4; w++) {
            for (int what = 0; what < 4; what++) {
                Due.is("window(" + w + ", " + what + ")", x.window(w, what), told[w][what]);
            }
        }
        doc.says(7, "NONE: no such ones.");
        for (int wrong : new int[] {-1, 4, 5, LEAST, GREATEST}) {
            Due.is("window(" + wrong + ", 0)", x.window(wrong, 0), NONE);
            Due.is("window(0, " + wrong + ")", x.window(0, wrong), NONE);
        }
        Due.is("no front", new ThreeLadders().window(0, 0), NONE);
        Due.is("one window", Due.front("w;b").window(1, 0), NONE);
    }

    private void laws() {
        doc.says(8, "The LAW: 0 PAY, 1 STANDING, 2 FINE, 3 SHARING.");
        ThreeLadders x = Due.front("w;b;lp99s98k97q2");
        int[] told = {99, 98, 97, 2};
        for (int what = 0; what < 4; what++) {
            Due.is("law(" + what + ")", x.law(what), told[what]);
        }
        doc.says(8, "NONE: no FRONT");
        for (int what = 0; what < 4; what++) {
            Due.is("law(" + what + ")", new ThreeLadders().law(what), NONE);
        }
        doc.says(8, "no such what");
        for (int wrong : new int[] {-1, 4, 5, LEAST, GREATEST}) {
            Due.is("law(" + wrong + ")", x.law(wrong), NONE);
        }
    }

    private void changes() {
        int[] most = {99, 99, 99, 2};
        doc.says(9, "The LAW is changed.");
        ThreeLadders x = Due.front("w;b;lp7s7k7q1");
        for (int what = 0; what < 4; what++) {
            for (int v : new int[] {most[what], 0, 1}) {
                Due.is("change(" + what + ", " + v + ")", x.change(what, v), true);
                Due.is("law(" + what + ")", x.law(what), v);
            }
        }
        doc.says(9, "False: no FRONT");
        Due.is("change", new ThreeLadders().change(0, 10), false);
        doc.says(9, "out of bounds");
        for (int what = 0; what < 4; what++) {
            for (int v : new int[] {-1, most[what] + 1, LEAST, GREATEST}) {
                Due.is("change(" + what + ", " + v + ")", x.change(what, v), false);
                Due.is("law(" + what + ")", x.law(what), 1);
            }
        }
        for (int what : new int[] {-1, 4, LEAST, GREATEST}) {
            Due.is("change(" + what + ", 0)", x.change(what, 0), false);
        }
        Due.is("all as it was", x.law(0) + x.law(1) + x.law(2) + x.law(3), 4);
    }

    private void rulesOfBrigades() {
        doc.says(10, "A RULE of a BRIGADE (NONE: none).");
        ThreeLadders x = Due.front("w;b;b");
        Due.is("none instead of none", x.rule(1, NONE), true);
        for (int n = 0; n < 4; n++) {
            Due.is("rule(1, " + n + ") ahead of it", x.rule(1, n), false);
            Due.addRule(x, "y:1");
            Due.is("rule(1, " + n + ")", x.rule(1, n), true);
            Due.is("its rule", x.brigade(1, 3), n);
        }
        Due.is("the other one has none", x.brigade(0, 3), NONE);
        Due.is("one rule for both", x.rule(0, 3) && x.brigade(0, 3) == 3, true);
        Due.is("none", x.rule(1, NONE) && x.brigade(1, 3) == NONE, true);
        doc.says(10, "False: no such ones.");
        for (int wrong : new int[] {-2, 4, 5, LEAST, GREATEST}) {
            Due.is("rule(0, " + wrong + ")", x.rule(0, wrong), false);
        }
        for (int wrong : new int[] {-1, 2, 3, LEAST, GREATEST}) {
            Due.is("rule(" + wrong + ", 0)", x.rule(wrong, 0), false);
            Due.is("rule(" + wrong + ", NONE)", x.rule(wrong, NONE), false);
        }
        Due.is("as it was", x.brigade(0, 3), 3);
        ThreeLadders none = new ThreeLadders();
        Due.addRule(none, "y:1");
        Due.is("no front", none.rule(0, 0), false);
        Due.is("no front", none.rule(0, NONE), false);
    }

    private void puts() {
        doc.says(0, "10 times the PLACE of the ladder's feet (0 .. 5) and the WINDOW; or 99: it STANDS back");
        ThreeLadders x = Due.front("w;w;bn12;bn1");
        for (int put = -11; put < 130; put++) {
            boolean some = put >= 0 && put < 60 && put % 10 < 2;
            Due.is("reaches(0, " + put + ")", x.reaches(0, put), some || put == 99 ? 1 : NONE);
        }
        Due.is("with four windows", Due.front("w;w;w;w;b").reaches(0, 3), 1);
        Due.is("with four windows", Due.front("w;w;w;w;b").reaches(0, 4), NONE);
        doc.says(0, "no more together than that of LENGTH");
        // 3, 4, 5; straight up; 9 high and 4 aside are 97, 5 aside 106
        Due.is("just", Due.front("wx0h3;bn5").reaches(0, 40), 1);
        Due.is("too far", Due.front("wx0h3;bn5").reaches(0, 50), 0);
        Due.is("just, from the other side", Due.front("wx5h3;bn5").reaches(0, 10), 1);
        Due.is("too far, from the other side", Due.front("wx5h3;bn5").reaches(0, 0), 0);
        Due.is("too short", Due.front("wx0h3;bn4").reaches(0, 40), 0);
        Due.is("straight up", Due.front("wx5h9;bn9").reaches(0, 50), 1);
        Due.is("straight up, too short", Due.front("wx5h9;bn8").reaches(0, 50), 0);
        Due.is("97", Due.front("wx5h9;bn10").reaches(0, 10), 1);
        Due.is("106", Due.front("wx5h9;bn10").reaches(0, 0), 0);
        Due.is("106 by the longest", Due.front("wx5h9;bn12").reaches(0, 0), 1);
        Due.is("by the shortest", Due.front("wx2h1;bn1").reaches(0, 20), 1);
        Due.is("one aside", Due.front("wx2h1;bn1").reaches(0, 30), 0);
        doc.says(11, "Whether a PUT REACHES (1, 0; 99: 1).");
        Due.is("1", x.reaches(0, 0), 1);
        Due.is("0", x.reaches(1, 0), 0);
        Due.is("99", x.reaches(1, 99), 1);
        doc.says(11, "NONE: no such ones.");
        for (int wrong : new int[] {-100, -99, -10, -1, 2, 9, 12, 52, 60, 61, 69, 90, 98, 100, 199, LEAST, GREATEST}) {
            Due.is("reaches(0, " + wrong + ")", x.reaches(0, wrong), NONE);
        }
        for (int wrong : new int[] {-1, 2, 3, LEAST, GREATEST}) {
            Due.is("reaches(" + wrong + ", 0)", x.reaches(wrong, 0), NONE);
            Due.is("reaches(" + wrong + ", 99)", x.reaches(wrong, 99), NONE);
        }
        Due.is("no front", new ThreeLadders().reaches(0, 99), NONE);
        Due.is("no front", new ThreeLadders().reaches(0, 0), NONE);
    }

    /** What the five that are told of a row say of one that there is not. */
    private static void noRow(ThreeLadders x, int row) {
        Due.is("told, row " + row, x.told(row, 0, 0), HIDDEN);
        Due.is("all, row " + row, x.all(row, 0), HIDDEN);
        Due.is("child, row " + row, x.child(row, 0, 0), HIDDEN);
        Due.is("best, row " + row, x.best(row, 0, 0), HIDDEN);
        Due.is("night, row " + row, x.night(row), NONE);
    }

    private static void someRow(ThreeLadders x, int row, int saved) {
        Due.is("all, row " + row, x.all(row, 0), saved);
        Due.is("told, row " + row, x.told(row, 0, 0) >= 0, true);
        Due.is("best, row " + row, x.best(row, 0, 0) >= 0, true);
        Due.is("night, row " + row, x.night(row) > 0, true);
    }

    private void rows() {
        doc.says(0, "It REACHES, if the square of how far PLACE and COLUMN are apart");
        Due.is("2 to 5", Due.front("wx5h4;bn5").reaches(0, 20), 1);
        Due.is("1 to 5", Due.front("wx5h4;bn5").reaches(0, 10), 0);
        doc.says(0, "only such PUTS may be");
        // one child, straight up from place 2 alone
        ThreeLadders x = Due.front("wx2h3;bn3");
        someRow(x, 20, 1);
        someRow(x, 99, 0);
        for (int wrong : new int[] {0, 10, 30, 40, 50}) {
            noRow(x, wrong);
        }
        ThreeLadders y = Due.front("wx2h3c2;bn3;bn3;bn3");
        someRow(y, 209999, 2);
        someRow(y, 992099, 2);
        someRow(y, 999920, 2);
        noRow(y, 109999);
        noRow(y, 991099);
        noRow(y, 999910);
        noRow(y, 219999);
        noRow(y, 992199);
        noRow(y, 999921);
        doc.says(0, "PUTS of all: a row, digits to the base 100, BRIGADE 0 the highest.");
        for (int wrong : new int[] {-1, -20, -99, 98, 100, 199, 120, 9999, 2099, LEAST, GREATEST}) {
            noRow(x, wrong);
        }
        for (int wrong : new int[] {-1, 20, 99, 9999, 2020, 1000000, 1999999, 1209999, LEAST, GREATEST}) {
            noRow(y, wrong);
        }
        someRow(y, 999999, 0);
        ThreeLadders two = Due.front("wh1;wx5h1c2;bn1;bn1");
        Due.is("0 to window 0, 1 to window 1", two.all(51, 0) * 10 + two.told(51, 1, 0), 32);
        Due.is("the other way", two.told(5100, 0, 0) * 10 + two.told(5100, 1, 0), 21);
        noRow(two, 10000);
        noRow(two, 10051);
    }

    private void feet() {
        doc.says(0, "of two on one PLACE the one that ARRIVES first has it");
        ThreeLadders x = Due.front("wx2h1c9f60;wx3h1c9f60;ba1;ba0;ls5");
        Due.is("1 has it", x.all(2021, 9), 1);
        Due.is("1 has it, to one window", x.all(2020, 9), 1);
        Due.is("each has one", x.all(2030, 9), 0);
        ThreeLadders late = Due.front("w;ba29;ba30");
        Due.is("0 has it", late.all(0, 9), 2);
        ThreeLadders three = Due.front("wx2h1c9f60;ba2;ba1;ba1");
        Due.is("of three 1 has it", three.all(202020, 9), 5);
        Due.is("of two, one elsewhere", three.all(201020, 9), 1);
        doc.says(0, "(of like ones the lower number)");
        ThreeLadders like = Due.front("wx2h1c9f60;wx3h1c9f60;ba1;ba1;ba1");
        Due.is("0 has it", like.all(212020, 9), 6);
        Due.is("1 has it", like.all(992120, 9), 5);
        Due.is("0 has it", like.all(209921, 9), 6);
        doc.says(0, "the other one STANDS back, whatever it was to do");
        Due.is("saved", x.told(2021, 0, 0), 0);
        Due.is("pay for that", x.told(2021, 0, 1), 5);
        Due.is("shake", x.told(2021, 0, 2), NONE);
        Due.is("climb", x.told(2021, 0, 3), NONE);
        Due.is("none by it at its window", x.all(2021, 1), 0);
        Due.is("one that stands back by itself has no place", x.all(9921, 9), 1);
        Due.is("both back", x.all(9999, 9), 3);
    }

    private void crossing() {
        doc.says(0, "in opposite order (neither alike)");
        ThreeLadders x = Due.front("wx0h1;wx2h1;wx4h1;wx2h2;bn12;bn12;bn12");
        shakes(x, 302199, 1, 1, NONE);
        shakes(x, 213099, 1, 1, NONE);
        shakes(x, 500299, 1, 1, NONE);
        shakes(x, 203199, 0, 0, NONE);
        shakes(x, 312099, 0, 0, NONE);
        shakes(x, 311399, 0, 0, NONE);
        shakes(x, 311199, 0, 0, NONE);
        doc.says(0, "Of those that do not, two CROSS");
        shakes(x, 309999, 0, NONE, NONE);
        shakes(x, 302021, 0, 0, NONE);
        doc.says(0, "SHAKE: with how many it CROSSES.");
        shakes(x, 503112, 2, 2, 2);
        shakes(x, 501131, 2, 1, 1);
        shakes(x, 415031, 1, 2, 1);
        shakes(x, 315000, 1, 1, 0);
    }

    private static void shakes(ThreeLadders x, int row, int a, int b, int c) {
        Due.is("shake of 0, row " + row, x.told(row, 0, 2), a);
        Due.is("shake of 1, row " + row, x.told(row, 1, 2), b);
        Due.is("shake of 2, row " + row, x.told(row, 2, 2), c);
    }

    private void climbs() {
        doc.says(0, "CLIMB: PACE times HEIGHT times (SHAKE and 1).");
        ThreeLadders x = Due.front("wx0h9;wx2h9;wx4h9;bn12p5;bn12p4;bn12p1");
        int[] thrice = {135, 108, 27};
        int[] once = {45, 36, 9};
        for (int b = 0; b < 3; b++) {
            Due.is("shaken by two", x.told(503112, b, 3), thrice[b]);
            Due.is("not shaken", x.told(3152, b, 3), once[b]);
        }
        Due.is("the least", Due.front("wh1;b").told(0, 0, 3), 1);
        Due.is("not shaken", x.told(310099, 0, 3) * 100 + x.told(310099, 1, 3), 45 * 100 + 36);
        Due.is("shaken by one", x.told(302199, 0, 3) * 100 + x.told(302199, 1, 3), 90 * 100 + 72);
    }

    private void visits() {
        doc.says(0, "if that is ahead of the FIRE and a child is there, it takes one down");
        for (int fire = 1; fire <= 60; fire++) {
            // visits at 2, 4, 6 ..
            Due.is("fire at " + fire, Due.front("wh1c9f" + fire + ";b").all(0, 0), Math.min(9, (fire - 1) / 2));
            // visits at 32, 34 ..
            Due.is("fire at " + fire + ", late", Due.front("wh1c9f" + fire + ";ba30").all(0, 0),
                    Math.max(0, Math.min(9, (fire - 31) / 2)));
        }
        for (int children = 0; children <= 9; children++) {
            Due.is(children + " children", Due.front("wh1f60c" + children + ";b").all(0, 0), children);
        }
        Due.is("at 59", Due.front("wh9f60;ba13n9p5").child(0, 0, 0), 59);
        Due.is("at 60", Due.front("wh9f60;ba14n9p5").all(0, 0), 0);
        doc.says(0, "Its k-th visit to the WINDOW (from 1): at ARRIVES and 1 and (2 k less 1) times CLIMB");
        ThreeLadders x = Due.front("wh2c9f60;ba3p2");
        int[] minutes = {8, 16, 24, 32, 40, 48, 56};
        for (int n = 0; n < minutes.length; n++) {
            Due.is("child " + n, x.child(0, n, 0), minutes[n]);
        }
        Due.is("no more", x.child(0, 7, 0), HIDDEN);
        doc.says(0, "(SAVED by it)");
        Due.is("saved", x.told(0, 0, 0), 7);
        Due.is("none is back", x.told(99, 0, 0), 0);
    }

    private void byMinutes() {
        doc.says(0, "All visits go by minutes (of one minute by numbers of BRIGADES).");
        ThreeLadders x = Due.front("wh1c3f60;b;b");
        int[][] order = {{2, 0, 0}, {2, 1, 0}, {4, 0, 0}};
        for (int n = 0; n < 3; n++) {
            for (int what = 0; what < 3; what++) {
                Due.is("child(" + n + ", " + what + ")", x.child(10, n, what), order[n][what]);
            }
        }
        Due.is("the last to the lower number", x.told(10, 0, 0) * 10 + x.told(10, 1, 0), 21);
        ThreeLadders y = Due.front("wh1c1f60;ba1;b");
        Due.is("the earlier one", y.child(10, 0, 1), 1);
        Due.is("nothing is left", y.told(10, 0, 0), 0);
        ThreeLadders z = Due.front("wh1c1f60;wx5h1c1f60;b;b;b");
        // 2 to window 0 as 1, both to be there at 2; 0 to window 1 at 2
        Due.is("by numbers at two windows", z.child(510010, 0, 2) * 100 + z.child(510010, 1, 1), 101);
        Due.is("two are taken", z.all(510010, 0), 2);
    }

    private void gains() {
        doc.says(0, "with SHARING 0 PAY for each child that it SAVED");
        ThreeLadders x = Due.front("wh1c3f60;b;b;b;lp99");
        Due.is("two", x.told(1099, 0, 1), 198);
        Due.is("one", x.told(1099, 1, 1), 99);
        x.change(0, 0);
        Due.is("for nothing", x.told(1099, 0, 1), 0);
        doc.says(0, "1: PAY times all SAVED, by how many do not STAND back, cut, for each that does not");
        x.change(3, 1);
        x.change(0, 7);
        Due.is("21 by 1", x.told(9999, 0, 1), 21);
        Due.is("21 by 2", x.told(1099, 0, 1) * 100 + x.told(1099, 1, 1), 1010);
        Due.is("21 by 3", x.told(1020, 2, 1), 7);
        Due.is("one for want of a place is not counted", x.told(1000, 0, 1), 10);
        Due.is("and has none of it", x.told(1000, 2, 1), 0);
        ThreeLadders late = Due.front("wh1c1f60;b;ba9;lp99q1");
        Due.is("for one that saved none too", late.told(10, 1, 1), 49);
        x.change(1, 4);
        Due.is("all stand back", x.told(999999, 0, 1), 4);
        doc.says(0, "as far as it was the first that SAVED one at that WINDOW (else none)");
        ThreeLadders y = Due.front("wh1c4f60;wx5h1c9f9;b;b;ba1;lp10q2");
        Due.is("of one minute the lower number", y.told(1099, 0, 1) * 100 + y.told(1099, 1, 1), 2000);
        Due.is("each at its own", y.told(5199, 0, 1) * 1000 + y.told(5199, 1, 1), 40040);
        Due.is("the later one", y.told(990010, 2, 1), 0);
        Due.is("but it saved", y.told(990010, 2, 0), 2);
        Due.is("the higher number, earlier", Due.front("wh1c2f60;ba1;b;lq2").told(10, 1, 1), 10);
        Due.is("nobody was the first", Due.front("wc0;b;lq2").told(0, 0, 1), 0);
        doc.says(0, "less FINE for each with which it CROSSES");
        ThreeLadders z = Due.front("wx0h1c0;wx2h1c0;wx4h1c9;bn12;bn12;bn12;lk99p10s3");
        for (int sharing = 0; sharing < 3; sharing++) {
            z.change(3, sharing);
            Due.is("two", z.told(503112, 0, 1), (sharing == 1 ? z.all(503112, 0) * 10 / 3 : 0) - 198);
            Due.is("one", z.told(302199, 0, 1), -99);
            Due.is("none", z.told(203199, 0, 1), 0);
        }
        doc.says(0, "(by its PUT or for want of a PLACE)");
        Due.is("by its put", z.told(203199, 2, 1), 3);
        Due.is("for want of a place", z.told(203121, 2, 1), 3);
        z.change(1, 99);
        Due.is("by its put", z.told(203199, 2, 1), 99);
        Due.is("for want of a place", z.told(203121, 2, 1), 99);
    }

    private void toldRefused() {
        doc.says(12, "By a row: SAVED by a BRIGADE (0), its GAIN (1), its SHAKE (2; NONE: it STANDS back), "
                + "its CLIMB (3; NONE likewise).");
        ThreeLadders x = Due.front("wh2c1f60;b;b;ls1");
        int[][] told = {{1, 10, 0, 2}, {0, 1, NONE, NONE}};
        for (int b = 0; b < 2; b++) {
            for (int what = 0; what < 4; what++) {
                Due.is("told(99, " + b + ", " + what + ")", x.told(99, b, what), told[b][what]);
                Due.is("told(0, " + b + ", " + what + ")", x.told(0, b, what), told[b][what]);
            }
        }
        doc.says(12, "HIDDEN: no such ones");
        for (int wrong : new int[] {-1, 2, 3, LEAST, GREATEST}) {
            Due.is("told(0, " + wrong + ", 0)", x.told(0, wrong, 0), HIDDEN);
        }
        for (int wrong : new int[] {-1, 4, 5, LEAST, GREATEST}) {
            Due.is("told(0, 0, " + wrong + ")", x.told(0, 0, wrong), HIDDEN);
        }
        Due.is("no front", new ThreeLadders().told(0, 0, 0), HIDDEN);
        doc.says(12, "no such row");
        for (int wrong : new int[] {-1, 1, 60, 98, 100, 6000, 9899, 10000, 10099, LEAST, GREATEST}) {
            for (int what = 0; what < 4; what++) {
                Due.is("told(" + wrong + ", 0, " + what + ")", x.told(wrong, 0, what), HIDDEN);
            }
        }
    }

    private void allRefused() {
        doc.says(13, "By a row: SAVED in all (0), of a WINDOW (1 and its number), who STANDS back as bits (9).");
        ThreeLadders x = Due.front("wh1c1f60;wh1c2f60;wh1c3f60;wh1c4f60;b;b;b");
        Due.is("in all", x.all(11399, 0), 6);
        int[] at = {0, 2, 0, 4};
        for (int w = 0; w < 4; w++) {
            Due.is("of window " + w, x.all(11399, 1 + w), at[w]);
        }
        int[][] backs = {{1020, 0}, {991020, 1}, {9920, 2}, {1099, 4}, {999920, 3}, {999999, 7}, {0, 6}};
        for (int[] one : backs) {
            Due.is("who stands back by " + one[0], x.all(one[0], 9), one[1]);
        }
        Due.is("nobody saves", x.all(999999, 0), 0);
        doc.says(13, "HIDDEN: no such row");
        for (int wrong : new int[] {-1, 4, 60, 98, 400, 1000000, LEAST, GREATEST}) {
            for (int what : new int[] {0, 1, 4, 9}) {
                Due.is("all(" + wrong + ", " + what + ")", x.all(wrong, what), HIDDEN);
            }
        }
        Due.is("no front", new ThreeLadders().all(0, 0), HIDDEN);
        Due.is("no front", new ThreeLadders().all(0, 9), HIDDEN);
        doc.says(13, "no such what");
        for (int wrong : new int[] {-1, 5, 6, 7, 8, 10, LEAST, GREATEST}) {
            Due.is("all(0, " + wrong + ")", x.all(0, wrong), HIDDEN);
        }
        Due.is("one window", Due.front("w;b").all(0, 2), HIDDEN);
        Due.is("one window", Due.front("w;b").all(0, 1), 1);
    }

    private void childRefused() {
        doc.says(14, "the n-th child (from 0) of all is taken, by minutes as they go (0), by whom (1), "
                + "from which WINDOW (2)");
        ThreeLadders x = Due.front("wh1c1f60;wx5h2c2f60;b;b");
        // 1 at window 0 at 2; 0 at window 1 at 3 and 7
        int[][] taken = {{2, 1, 0}, {3, 0, 1}, {7, 0, 1}};
        for (int n = 0; n < 3; n++) {
            for (int what = 0; what < 3; what++) {
                Due.is("child(" + n + ", " + what + ")", x.child(5100, n, what), taken[n][what]);
            }
        }
        Due.is("27 at most", Due.front("wh1c9f60;wx1h1c9f60;wx2h1c9f60;b;b;b").child(1122, 26, 0), 18);
        doc.says(14, "HIDDEN: no such row");
        for (int wrong : new int[] {-1, 2, 5200, 6000, 9800, 15100, LEAST, GREATEST}) {
            Due.is("child(" + wrong + ", 0, 0)", x.child(wrong, 0, 0), HIDDEN);
        }
        Due.is("no front", new ThreeLadders().child(0, 0, 0), HIDDEN);
        doc.says(14, "no such ones");
        for (int wrong : new int[] {-1, 3, 4, LEAST, GREATEST}) {
            for (int what = 0; what < 3; what++) {
                Due.is("child(5100, " + wrong + ", " + what + ")", x.child(5100, wrong, what), HIDDEN);
            }
            Due.is("child(5100, 0, " + wrong + ")", x.child(5100, 0, wrong), HIDDEN);
        }
        Due.is("none is taken", x.child(9999, 0, 0), HIDDEN);
    }
}

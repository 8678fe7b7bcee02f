/** Promises 14 to 30, 35 and 36: what is asked about the needle as it goes. */
public final class AskTest {
    private static final Check CHECK = new Check();
    // As it goes: 0, 1 back, 0, 1 back and up to 2 by guest a, 2, 3, OUT.
    private static final String TOLD = "groove 2 1;groove 3 5;groove 4 9;groove 1 2;scrat 1 90 1 5 2;"
        + "guest a 2 2 7;guest b 4 1 3;arm 4;price 12 2;seed 0;";
    private static final String FIVE = "groove 1 1;groove 2 2;groove 3 3;groove 4 4;groove 5 5;";
    private static final String STUCK = "groove 1 1;scrat 0 0 1 0 1;law back 100;";

    public static void main(String[] args) {
        outs();
        loops();
        likelies();
        lights();
        whens();
        manyPlays();
        misses();
        waits();
        needles();
        mosts();
        reached();
        bits();
        rules();
        getsUp();
        tamed();
        chances();
        tries();
        fromNowOn();
        nothingIsDone();
        CHECK.close("AskTest");
    }

    private static void outs() {
        CHECK.promise(14);
        StuckGroove x = Check.told(TOLD);
        int[][] due = {{6, 15, 23, 7}, {6, 15, 23, 7}, {-2, 14, 21, 7}, {-2, 10, 12, 7}, {-2, 7, 7, 0}, {-2, 0, 0, 0}};
        int[] n = {200, 6, 5, 4, 3, 0};
        for (int i = 0; i < n.length; i++) {
            for (int what = 0; what < 4; what++) {
                CHECK.due("out(" + n[i] + ", " + what + ")", x.out(n[i], what), due[i][what]);
            }
        }
        CHECK.due("out(-1, 0)", x.out(-1, 0), -1);
        CHECK.due("out(201, 0)", x.out(201, 0), -1);
        CHECK.due("out(5, 4)", x.out(5, 4), -1);
        CHECK.due("out(5, -1)", x.out(5, -1), -1);
        x.nudge(9);
        for (int what = 0; what < 4; what++) {
            CHECK.due("OUT already, out(9, " + what + ")", x.out(9, what), 0);
        }
        x = Check.told(FIVE + "scrat 0 0 1 50 3;law back 49;");
        CHECK.due("odds of 49 let it on by 3", x.out(9, 1), 10);
        x = Check.told(FIVE + "scrat 0 0 1 49 3;law back 49;");
        CHECK.due("odds of 49 and 49 let it through", x.out(9, 1), 15);
        x = Check.told(FIVE + "scrat 0 0 1 100 3;law back 50 * (turn < 2);");
        CHECK.due("odds of 50 throw it back", x.out(9, 0), 5);
    }

    private static void loops() {
        CHECK.promise(15);
        CHECK.due("OUT", Check.told(FIVE).loop(), 0);
        CHECK.due("without GROOVES", new StuckGroove().loop(), 0);
        CHECK.due("1 to 3", Check.told(FIVE + "scrat 3 0 2 0 1;law back 100;guest a 1 9 1;").loop(), 14);
        CHECK.due("the last 24 alone",
            Check.told(FIVE + "scrat 3 0 1 0 1;scrat 4 0 1 0 1;law back (turn < 175 or place = 4) * 100;").loop(), 24);
        CHECK.due("OUT behind the 200th", Check.told("groove 1 1;scrat 0 0 1 0 1;law back (turn < 199) * 100;").loop(), 0);
        CHECK.due("not OUT by then", Check.told("groove 1 1;scrat 0 0 1 0 1;law back (turn < 200) * 100;").loop(), 1);
    }

    private static void likely(StuckGroove x, int n, int groove, long above, long below) {
        CHECK.due("likely(" + n + ", " + groove + ", 0)", x.likely(n, groove, 0), above);
        CHECK.due("likely(" + n + ", " + groove + ", 1)", x.likely(n, groove, 1), below);
    }

    private static void likelies() {
        CHECK.promise(16);
        StuckGroove x = Check.told("groove 1 1;groove 1 1;scrat 0 50 1 30 2;law back odds;guest a 1 9 9;");
        likely(x, 0, 0, 1, 1);
        likely(x, 0, 1, 0, 1);
        likely(x, 0, 2, 0, 1);
        likely(x, 1, 0, 1, 2);
        likely(x, 1, 1, 1, 5);
        likely(x, 1, 2, 3, 10);
        likely(x, 2, 0, 1, 4);
        likely(x, 2, 1, 1, 10);
        likely(x, 2, 2, 13, 20);
        CHECK.due("likely(8, 0, 0)", x.likely(8, 0, 0), -1);
        CHECK.due("likely(-1, 0, 0)", x.likely(-1, 0, 0), -1);
        CHECK.due("likely(1, 3, 0)", x.likely(1, 3, 0), -1);
        CHECK.due("likely(1, -1, 0)", x.likely(1, -1, 0), -1);
        CHECK.due("likely(1, 0, 2)", x.likely(1, 0, 2), -1);
        CHECK.due("likely(1, 0, -1)", x.likely(1, 0, -1), -1);
        x = Check.told("groove 1 1;groove 1 1;scrat 0 50 1 50 2;law back 80;");
        likely(x, 1, 0, 4, 5);
        likely(x, 1, 1, 0, 1);
        likely(x, 1, 2, 1, 5);
        likely(Check.told("groove 1 1;scrat 0 60 1 0 1;arm 0;"), 2, 0, 33, 100);
        likely(Check.told("groove 1 1;scrat 0 60 1 0 1;law back 50 + round * 25;"), 2, 0, 3, 8);
        likely(Check.told("groove 1 1;scrat 0 60 1 0 1;law back 50 + turn * 25;"), 2, 0, 3, 8);
        likely(Check.told("groove 5 1;scrat 0 60 1 0 1;law back heard * 10;"), 2, 0, 1, 2);
        likely(Check.told("groove 1 1;scrat 0 60 1 0 1;law back 33;"), 7, 0, 42618442977L, 100000000000000L);
        // Each way has the TURNS, the SECONDS and the wear of its own.
        likely(Check.told("groove 1 1;groove 1 1;scrat 1 0 1 0 1;law back turn * 50;"), 2, 0, 1, 2);
        likely(Check.told("groove 1 1;groove 1 1;scrat 0 0 1 0 1;scrat 1 0 1 0 1;law back (place = 0) * 50 + place * turn * 30;"),
            2, 2, 7, 20);
        likely(Check.told("groove 9 1;groove 1 1;scrat 0 0 1 0 1;scrat 1 0 1 0 1;law back (place = 0) * 50 + place * heard * 3;"),
            2, 2, 7, 20);
        StuckGroove y = Check.told("groove 1 1;groove 1 1;groove 1 1;scrat 1 0 1 0 1;scrat 2 0 1 0 1;"
            + "law back (place = 1) * 50 + (place = 2) * turn * 30;");
        y.nudge(1);
        likely(y, 2, 3, 7, 20);
        y = Check.told("groove 1 1;scrat 0 0 1 10 9;law back 50 - worn * 10;");
        likely(y, 1, 0, 1, 2);
        likely(y, 2, 0, 1, 5);
        likely(y, 3, 1, 47, 50);
        x.nudge(9);
        likely(x, 3, 2, 1, 1);
        likely(x, 3, 0, 0, 1);
    }

    private static void lights() {
        CHECK.promise(17);
        StuckGroove x = Check.told(TOLD);
        CHECK.due("light(0)", x.light(0), 9);
        CHECK.due("light(1)", x.light(1), 10);
        CHECK.due("light(2)", x.light(2), -1);
        CHECK.due("light(-1)", x.light(-1), -1);
        x = Check.told(FIVE + "scrat 4 0 4 0 1;law back 100 - heavy * 10;guest a 1 9 1;");
        CHECK.due("the first of several", x.light(0), 6);
        CHECK.due("its seconds", x.light(1), 15);
        x = Check.told(STUCK + "guest a 1 9 1;");
        CHECK.due("by none", x.light(0), -2);
        CHECK.due("by none, seconds", x.light(1), -2);
        x = Check.told("groove 1 1;scrat 0 0 1 0 1;law back (turn < 199) * 100;");
        CHECK.due("OUT behind 200 TURNS", x.light(1), 200);
        x.go(0);
        x = Check.told("groove 1 1;scrat 0 0 1 0 1;law back (turn < 200) * 100;");
        CHECK.due("not by 200 TURNS", x.light(1), -2);
        x = Check.told(FIVE);
        x.go(2);
        CHECK.due("seconds from now on", x.light(1), 12);
    }

    private static void whens() {
        CHECK.promise(18);
        StuckGroove x = Check.told(TOLD);
        CHECK.due("when(2, 0)", x.when(2, 0), 1);
        CHECK.due("when(2, 1)", x.when(2, 1), 3);
        CHECK.due("when(9, 0)", x.when(9, 0), 0);
        CHECK.due("when(9, 1)", x.when(9, 1), 0);
        CHECK.due("when(0, 0)", x.when(0, 0), -1);
        CHECK.due("when(10, 0)", x.when(10, 0), -1);
        CHECK.due("when(1, 2)", x.when(1, 2), -1);
        CHECK.due("when(1, -1)", x.when(1, -1), -1);
        x = Check.told(FIVE + "scrat 0 0 1 0 1;scrat 1 0 1 0 1;law back 100;");
        CHECK.due("by none", x.when(1, 0), -2);
        CHECK.due("by none, seconds", x.when(1, 1), -2);
        CHECK.due("by 2", x.when(2, 1), 12);
        String twoStuck = "groove 1 1;groove 1 1;scrat 0 0 1 0 1;scrat 1 0 1 0 1;guest a 1 9 1;";
        x = Check.told(twoStuck + "law back (turn < 198) * 100;");
        CHECK.due("in 200 TURNS from now", x.when(1, 1), 200);
        x = Check.told(twoStuck + "law back (turn < 199) * 100;");
        CHECK.due("not in 200 TURNS from now", x.when(1, 1), -2);
        // It gets from GROOVE 0 to 1, or OUT of GROOVE 3, in one TURN alone.
        String late = "groove 1 1;groove 1 1;groove 9 1;groove 9 1;scrat 0 0 1 0 1;scrat 1 0 1 0 1;scrat 3 0 9 0 1;";
        x = Check.told(late + "law back (turn <> 19) * 100;");
        CHECK.due("20 at most", x.when(3, 0), 20);
        CHECK.due("20 at most, seconds", x.when(3, 1), 20);
        x = Check.told(late + "law back (turn <> 20) * 100;");
        CHECK.due("not ahead of TURN 21", x.when(3, 0), 20);
        CHECK.due("not ahead of TURN 21, seconds", x.when(3, 1), 29);
        x = Check.told("groove 1 1;groove 1 1;groove 1 1;scrat 1 0 1 0 1;law back (round < 2) * 100;law wear 0;");
        // Nudged ahead of TURN 1 it is in GROOVE 2; that ROUNDS are 0 behind a NUDGE is seen below.
        CHECK.due("once", x.when(1, 1), 2);
        x = Check.told("groove 1 1;groove 1 1;groove 1 1;scrat 1 0 1 0 1;law back (round < 2) * 100;law wear 0;");
        x.go(4);
        CHECK.due("rounds", x.count(9), 2);
        CHECK.due("ROUNDS are 0 behind a NUDGE: 0 to 1, back twice", x.when(1, 1), 2);
    }

    private static void manyPlays() {
        CHECK.promise(19);
        CHECK.due("without GROOVES", new StuckGroove().plays(), 1);
        CHECK.due("without SCRATCHES", Check.told(FIVE).plays(), 1);
        CHECK.due("TOLD", Check.told(TOLD).plays(), 2);
        CHECK.due("never", Check.told(STUCK + "guest a 1 9 1;").plays(), -2);
        // Thrown back once by each play: 100, 40 and so on by each wear.
        StuckGroove x = Check.told("groove 1 1;scrat 0 0 1 0 1;law back (worn / 2 * 2 = worn and worn < 10) * 100;");
        CHECK.due("wear goes on", x.plays(), 6);
        x.nudge(1);
        CHECK.due("from OUT", x.plays(), 6);
        x = Check.told("groove 1 1;scrat 0 0 1 0 1;law back (worn / 2 * 2 = worn and worn < 118) * 100;");
        CHECK.due("60", x.plays(), 60);
        x = Check.told("groove 1 1;scrat 0 0 1 0 1;law back (worn / 2 * 2 = worn and worn < 120) * 100;");
        CHECK.due("not by 60", x.plays(), -2);
        x = Check.told("groove 1 1;scrat 0 0 1 0 1;law back (worn < 300) * 100;");
        CHECK.due("200 TURNS each", x.plays(), 3);
    }

    private static void misses() {
        CHECK.promise(20);
        StuckGroove x = Check.told(FIVE);
        int[] due = {0, 2, 5, 9, 14, 14, 14, 14, 14};
        for (int far = 1; far <= 9; far++) {
            CHECK.due("missed(" + far + ")", x.missed(far), due[far - 1]);
        }
        CHECK.due("missed(0)", x.missed(0), -1);
        CHECK.due("missed(10)", x.missed(10), -1);
        CHECK.due("missed(-1)", x.missed(-1), -1);
        x.nudge(3);
        CHECK.due("from 3", x.missed(1), 0);
        CHECK.due("from 3 to OUT", x.missed(2), 5);
        x.nudge(3);
        CHECK.due("OUT", x.missed(1), -1);
        CHECK.due("told WORTH, not the law's", Check.told(FIVE + "law worth 50;").missed(2), 2);
    }

    private static void rests(StuckGroove x, int one, int other, int... due) {
        CHECK.promise(21);
        CHECK.due("rests(" + one + ", " + other + ")", x.rests(one, other), due.length);
        CHECK.promise(22);
        for (int k = 0; k < due.length; k++) {
            CHECK.due("rest(" + one + ", " + other + ", " + k + ")", x.rest(one, other, k), due[k]);
        }
        CHECK.due("rest(" + one + ", " + other + ", " + due.length + ")", x.rest(one, other, due.length), -2);
        CHECK.due("rest(" + one + ", " + other + ", -1)", x.rest(one, other, -1), -1);
    }

    private static void waits() {
        rests(Check.told(STUCK + "guest a 1 1 5;guest b 1 1 5;"), 0, 1, 1, 10);
        rests(Check.told(STUCK + "guest a 1 1 0;guest b 1 1 0;"), 0, 1, 1, 10, 11);
        rests(Check.told(STUCK + "guest a 1 1 99;guest b 1 1 99;"), 0, 1, 0, 1, 10);
        rests(Check.told(STUCK + "guest a 1 0 0;guest b 1 0 0;"), 0, 1, 0, 1, 10, 11);
        rests(Check.told(STUCK + "guest a 1 0 1;guest b 1 1 99;"), 0, 1, 0, 1);
        rests(Check.told(STUCK + "guest a 1 0 1;guest b 1 1 99;"), 1, 0, 0, 10);
        rests(Check.told(TOLD), 0, 1, 10);
        rests(Check.told(TOLD), 1, 0, 1);
        // The greater FAR counts: a's 3 leaves 9 SECONDS, b's 4 leaves 5, neither leaves 15.
        rests(Check.told(FIVE + "guest a 1 3 0;guest b 1 4 3;"), 0, 1, 1, 11);
        rests(Check.told(FIVE + "guest a 1 3 0;guest b 1 4 4;"), 0, 1, 1, 10, 11);
        rests(Check.told(FIVE + "guest a 1 3 0;guest b 1 4 5;"), 0, 1, 1, 10);
        StuckGroove x = Check.told(TOLD);
        int[][] wrong = {{0, 0}, {0, 2}, {2, 0}, {-1, 0}, {0, -1}};
        for (int[] pair : wrong) {
            CHECK.promise(21);
            CHECK.due("rests(" + pair[0] + ", " + pair[1] + ")", x.rests(pair[0], pair[1]), -1);
            CHECK.promise(22);
            CHECK.due("rest(" + pair[0] + ", " + pair[1] + ", 0)", x.rest(pair[0], pair[1], 0), -1);
        }
        x.nudge(9);
        CHECK.due("rests when OUT", x.rests(0, 1), -1);
        CHECK.due("rest when OUT", x.rest(0, 1, 0), -1);
        // 120 SECONDS count as 99: getting up for 99 spares nothing.
        x = Check.told("groove 5 1;groove 5 1;scrat 1 100 1 0 1;law back 100 - worn * 5;guest a 1 2 99;guest b 1 2 99;");
        rests(x, 0, 1, 0, 1, 10);
    }

    private static void needles() {
        CHECK.promise(23);
        StuckGroove x = Check.told(TOLD);
        int[] due = {1, 2, 3, 3, 3};
        for (int n = 1; n <= 5; n++) {
            CHECK.due("needle(" + n + ")", x.needle(n), due[n - 1]);
        }
        CHECK.due("needle(99)", x.needle(99), 3);
        CHECK.due("needle(0)", x.needle(0), -1);
        CHECK.due("needle(100)", x.needle(100), -1);
        CHECK.due("99 and 1", Check.told("price 99 1;").needle(99), 14);
        CHECK.due("no wear", Check.told("price 5 0;").needle(77), 77);
        CHECK.due("no price", Check.told("price 0 5;").needle(77), 1);
        CHECK.due("neither", new StuckGroove().needle(99), 1);
    }

    private static void mosts() {
        CHECK.promise(24);
        CHECK.due("without GROOVES", new StuckGroove().most(), -1);
        StuckGroove x = Check.told(FIVE);
        CHECK.due("none played", x.most(), 0);
        x.nudge(1);
        x.go(2);
        CHECK.due("the first of several", x.most(), 1);
        x.nudge(-1);
        x.go(1);
        CHECK.due("played twice", x.most(), 2);
    }

    private static void reached() {
        CHECK.promise(25);
        StuckGroove x = Check.told(TOLD);
        int[] due = {1, 2, 5, 6};
        for (int g = 0; g < 4; g++) {
            CHECK.due("reaches(" + g + ", 99)", x.reaches(g, 99), due[g]);
            CHECK.due("reaches(" + g + ", " + due[g] + ")", x.reaches(g, due[g]), due[g]);
        }
        CHECK.due("reaches(3, 5)", x.reaches(3, 5), -2);
        CHECK.due("reaches(3, 0)", x.reaches(3, 0), -1);
        CHECK.due("reaches(3, 100)", x.reaches(3, 100), -1);
        CHECK.due("reaches(4, 9)", x.reaches(4, 9), -1);
        CHECK.due("reaches(-1, 9)", x.reaches(-1, 9), -1);
        x.nudge(9);
        CHECK.due("OUT", x.reaches(0, 99), -2);
    }

    private static void bits() {
        CHECK.promise(26);
        StuckGroove x = Check.told("groove 1 4;groove 1 4;groove 1 1;groove 1 6;groove 1 2;groove 1 0;law worth 9 - place;");
        int[] due = {3, 0, 1, 0, 0, 0, -2, -2, -2, -2, -2, -2};
        for (int k = 1; k <= 12; k++) {
            CHECK.due("bestBit(" + k + ")", x.bestBit(k), due[k - 1]);
        }
        CHECK.due("bestBit(0)", x.bestBit(0), -1);
        CHECK.due("bestBit(13)", x.bestBit(13), -1);
        CHECK.due("worth nothing", Check.told("groove 1 0;groove 1 0;").bestBit(1), 0);
    }

    private static void rules() {
        CHECK.promise(27);
        StuckGroove x = Check.told(TOLD);
        CHECK.due("rule(1, 2, 50)", x.rule(1, 2, 50), 17);
        CHECK.due("rule(2, 2, 50)", x.rule(2, 2, 50), 23);
        CHECK.due("rule(1, 9, 200)", x.rule(1, 9, 200), 6);
        CHECK.due("rule(1, 9, 1)", x.rule(1, 9, 1), 1);
        CHECK.due("rule(1, 9, 0)", x.rule(1, 9, 0), 0);
        int[][] wrong = {{0, 1, 1}, {10, 1, 1}, {1, 0, 1}, {1, 10, 1}, {1, 1, -1}, {1, 1, 201}};
        for (int[] w : wrong) {
            CHECK.due("rule(" + w[0] + ", " + w[1] + ", " + w[2] + ")", x.rule(w[0], w[1], w[2]), -1);
        }
        CHECK.promise(28);
        x = Check.told(STUCK + "guest a 1 1 1;");
        int[][] due = {{60, 9, 1, 9}, {5, 5, 1, 5}, {0, 1, 1, 0}, {9, 9, 1, 9}};
        for (int[] d : due) {
            for (int what = 0; what < 3; what++) {
                CHECK.due("bestRule(" + d[0] + ", " + what + ")", x.bestRule(d[0], what), d[what + 1]);
            }
        }
        CHECK.due("bestRule(-1, 0)", x.bestRule(-1, 0), -1);
        CHECK.due("bestRule(61, 0)", x.bestRule(61, 0), -1);
        CHECK.due("bestRule(5, 3)", x.bestRule(5, 3), -1);
        CHECK.due("bestRule(5, -1)", x.bestRule(5, -1), -1);
        x = Check.told("groove 1 0;groove 1 0;groove 1 9;groove 1 9;groove 1 0;scrat 0 0 1 0 1;law back 100;");
        CHECK.due("by FAR", x.bestRule(60, 1), 1);
        x = Check.told("groove 1 0;groove 1 0;groove 1 0;groove 1 9;scrat 0 0 1 0 1;scrat 2 0 9 0 1;law back 100;");
        CHECK.due("by a greater FAR", x.bestRule(60, 1), 3);
        CHECK.due("ROUNDS", x.bestRule(60, 0), 1);
        CHECK.due("HEARD", x.bestRule(60, 2), 9);
        x = Check.told(Check.times("groove 1 0;", 9) + "groove 1 9;scrat 0 0 1 0 1;scrat 8 0 9 0 1;law back 100;");
        CHECK.due("by FAR 9 alone", x.bestRule(60, 1), 9);
        CHECK.due("by ROUNDS 1", x.bestRule(60, 0), 1);
    }

    private static void getsUp() {
        CHECK.promise(29);
        StuckGroove x = Check.told(TOLD);
        CHECK.due("gets(0, 3)", x.gets(0, 3), 0);
        CHECK.due("gets(0, 4)", x.gets(0, 4), 1);
        CHECK.due("gets(1, 200)", x.gets(1, 200), 0);
        CHECK.due("gets(0, 0)", x.gets(0, 0), 0);
        CHECK.due("gets(2, 4)", x.gets(2, 4), -1);
        CHECK.due("gets(-1, 4)", x.gets(-1, 4), -1);
        CHECK.due("gets(0, -1)", x.gets(0, -1), -1);
        CHECK.due("gets(0, 201)", x.gets(0, 201), -1);
        x = Check.told(STUCK + "guest a 2 0 1;");
        CHECK.due("every second TURN", x.gets(0, 200), 100);
        CHECK.due("each pays", x.out(200, 3), 100);
        x.go(4);
        CHECK.due("more from now on", x.gets(0, 3), 1);
    }

    private static void tamed() {
        CHECK.promise(30);
        CHECK.due("TOLD", Check.told(TOLD).tames(0), 5);
        CHECK.due("below 50 now", Check.told("scrat 9 49 1 0 1;arm 0;").tames(0), 0);
        CHECK.due("50 now", Check.told("scrat 9 50 1 0 1;arm 0;").tames(0), 1);
        CHECK.due("no such SCRATCH", Check.told("scrat 9 50 1 0 1;").tames(1), -1);
        CHECK.due("no such SCRATCH", Check.told("scrat 9 50 1 0 1;").tames(-1), -1);
        CHECK.due("worn as it is by then",
            Check.told("scrat 0 90 1 0 1;law back odds - worn * 7;law wear 1 + worn;").tames(0), 3);
        CHECK.due("nothing wears", Check.told("scrat 0 90 1 0 1;arm 0;law wear 0;").tames(0), -2);
        CHECK.due("99", Check.told("scrat 0 90 1 0 1;law back 148 - worn;").tames(0), 99);
        CHECK.due("not by 99", Check.told("scrat 0 90 1 0 1;law back 149 - worn;").tames(0), -2);
    }

    private static void chances() {
        CHECK.promise(35);
        StuckGroove x = Check.told("groove 1 1;scrat 0 50 1 0 1;law back 50;");
        // From 0 on: 0 68 88 17 98 27 45 41 22 10 of a hundred.
        CHECK.due("chance(0, 1)", x.chance(0, 1), 3);
        CHECK.due("chance(0, 0)", x.chance(0, 0), -1);
        CHECK.due("chance(0, 201)", x.chance(0, 201), -1);
        CHECK.due("chance(-1, 1)", x.chance(-1, 1), -1);
        CHECK.due("chance(0, 200)", x.chance(0, 200), 10);
        CHECK.due("without GROOVES", new StuckGroove().chance(Integer.MAX_VALUE, 1), 10);
        CHECK.due("never", Check.told(STUCK).chance(7, 200), 0);
        // A number for each throw, one for each NUDGE: on by it modulo 3.
        CHECK.due("with GUESTS", Check.told(STUCK + "guest a 1 1 1;").chance(0, 1), 7);
    }

    private static void tries() {
        CHECK.promise(36);
        StuckGroove x = Check.told(TOLD);
        int[] due = {47, 23, 17, 17, 23};
        for (int what = 0; what < 5; what++) {
            CHECK.due("tried(" + what + ", 0, 200)", x.tried(what, 0, 200), due[what]);
            CHECK.due("tried(" + what + ", 0, 1)", x.tried(what, 0, 1), 1);
            CHECK.due("tried(" + what + ", 0, 0)", x.tried(what, 0, 0), 0);
            CHECK.due("tried(" + what + ", 1, 9)", x.tried(what, 1, 9), -1);
            CHECK.due("tried(" + what + ", -1, 9)", x.tried(what, -1, 9), -1);
            CHECK.due("tried(" + what + ", 0, 201)", x.tried(what, 0, 201), -1);
            CHECK.due("tried(" + what + ", 0, -1)", x.tried(what, 0, -1), -1);
        }
        CHECK.due("tried(5, 0, 9)", x.tried(5, 0, 9), -1);
        CHECK.due("tried(-1, 0, 9)", x.tried(-1, 0, 9), -1);
        x = Check.told("groove 1 1;scrat 0 60 1 0 1;arm 0;");
        // Odds of 60, 55, 50 and 45: four times; 60 for ever; as it isn't there.
        CHECK.due("as it is", x.out(200, 2), 4);
        CHECK.due("nothing wears", x.tried(1, 0, 200), 200);
        CHECK.due("it isn't there", x.tried(2, 0, 200), 1);
        CHECK.due("weight 9", x.tried(3, 0, 200), 1);
        x.weigh(9);
        CHECK.due("weight 0", x.tried(4, 0, 200), 4);
        // ROUNDS stay, where the SCRATCH isn't: it is thrown back at 2 with ROUNDS of 1 once more.
        x = Check.told("groove 1 1;groove 1 1;groove 1 1;scrat 1 0 1 0 1;scrat 2 0 2 0 1;guest a 2 9 1;law back (place = 2) * 100;");
        CHECK.due("ROUNDS are 0 behind SCRATCH 0", x.out(200, 0), -2);
        CHECK.due("without it they stay", x.tried(2, 0, 200), 6);
    }

    /** From a later TURN on, what is asked is more than there was. */
    private static void fromNowOn() {
        StuckGroove x = Check.told("groove 3 4;groove 3 4;scrat 0 0 1 0 1;law back 100;guest a 1 0 2;guest b 9 9 9;");
        x.go(5);
        CHECK.promise(14);
        CHECK.due("out(4, 1)", x.out(4, 1), 12);
        CHECK.due("out(4, 2)", x.out(4, 2), 16);
        CHECK.due("out(4, 3)", x.out(4, 3), 8);
        CHECK.promise(18);
        CHECK.due("when(1, 1)", x.when(1, 1), 3);
        CHECK.promise(21);
        CHECK.due("rests(0, 1)", x.rests(0, 1), 1);
        CHECK.due("rest(0, 1, 0)", x.rest(0, 1, 0), 1);
        CHECK.promise(27);
        CHECK.due("rule(2, 1, 9)", x.rule(2, 1, 9), 12);
        CHECK.promise(28);
        CHECK.due("bestRule(3, 2)", x.bestRule(3, 2), 12);
        CHECK.promise(29);
        CHECK.due("gets(0, 3)", x.gets(0, 3), 3);
        CHECK.promise(36);
        CHECK.due("tried(2, 0, 9)", x.tried(2, 0, 9), 8);
        CHECK.due("tried(0, 0, 9)", x.tried(0, 0, 9), 36);
    }

    /** What is asked changes nothing. */
    private static void nothingIsDone() {
        CHECK.promise(14);
        StuckGroove x = Check.told(TOLD);
        StuckGroove y = Check.told(TOLD);
        x.go(1);
        y.go(1);
        askAll(x);
        for (int i = 0; i < 4; i++) {
            x.go(1);
            y.go(1);
            for (int what = 0; what < 14; what++) {
                CHECK.due("asked or not, count(" + what + ")", x.count(what), y.count(what));
            }
            CHECK.due("asked or not, worn", x.scratch(0, 5), y.scratch(0, 5));
            CHECK.due("asked or not, got up", x.guest(0, 3), y.guest(0, 3));
            CHECK.due("asked or not, played", x.groove(1, 2), y.groove(1, 2));
        }
    }

    private static void askAll(StuckGroove x) {
        x.out(200, 0);
        x.loop();
        x.likely(7, 0, 0);
        x.light(0);
        x.when(2, 0);
        x.plays();
        x.missed(2);
        x.rests(0, 1);
        x.rest(0, 1, 0);
        x.needle(9);
        x.most();
        x.reaches(3, 99);
        x.bestBit(2);
        x.rule(1, 1, 99);
        x.bestRule(60, 0);
        x.gets(0, 99);
        x.tames(0);
        x.threw(0);
        x.chance(1, 99);
        x.tried(3, 0, 99);
        x.law(0, 0);
    }
}

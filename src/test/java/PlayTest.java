import java.util.NoSuchElementException;

/** Promises 6 to 13 and 37 to 40: what is told, laws, TURNS, what is done by call, undone and kept. */
public final class PlayTest {
    private static final Check CHECK = new Check();
    private static final long ERROR = Long.MIN_VALUE;
    // From seed 0 on the numbers modulo 100 are 0, 68, 88, 17, 98, 27, and modulo 3: 0, 0, 1, 1, 0, 1.
    private static final String FIVE = "groove 1 1;groove 2 2;groove 3 3;groove 4 4;groove 5 5;";

    public static void main(String[] args) {
        grooves();
        scratches();
        guests();
        lawsOfNames();
        lawsOfSigns();
        weights();
        nudges();
        playsAnew();
        turns();
        guestsGetUp();
        lastTurn();
        undone();
        images();
        counts();
        CHECK.close("PlayTest");
    }

    /** What groove() answers; 1001 for an IndexOutOfBoundsException, 1002 for a NoSuchElementException. */
    private static int groove(StuckGroove x, int groove, int what) {
        try {
            return x.groove(groove, what);
        } catch (IndexOutOfBoundsException e) {
            return 1001;
        } catch (NoSuchElementException e) {
            return 1002;
        }
    }

    private static void grooves() {
        CHECK.promise(6);
        StuckGroove x = Check.told("scrat 1 0 1 0 1;groove 3 4;groove 5 6;");
        int[][] due = {{3, 4, 0, -1}, {5, 6, 0, 0}};
        for (int g = 0; g < 2; g++) {
            for (int what = 0; what < 4; what++) {
                CHECK.due("groove(" + g + ", " + what + ")", groove(x, g, what), due[g][what]);
            }
        }
        x.go(1);
        CHECK.due("played", groove(x, 0, 2), 1);
        CHECK.due("not played yet", groove(x, 1, 2), 0);
        CHECK.due("groove(2, 0)", groove(x, 2, 0), 1001);
        CHECK.due("groove(-1, 0)", groove(x, -1, 0), 1001);
        CHECK.due("groove(min, 0)", groove(x, Integer.MIN_VALUE, 0), 1001);
        CHECK.due("groove(2, 4)", groove(x, 2, 4), 1001);
        CHECK.due("groove(0, 4)", groove(x, 0, 4), 1002);
        CHECK.due("groove(0, -1)", groove(x, 0, -1), 1002);
    }

    private static void scratches() {
        CHECK.promise(7);
        StuckGroove x = Check.told("groove 1 1;scrat 0 80 2 10 3;scrat 5 30 1 0 1;arm 1;");
        int[] due = {0, 80, 2, 10, 3, 0, 75};
        for (int what = 0; what < 7; what++) {
            CHECK.due("scratch(0, " + what + ")", x.scratch(0, what), due[what]);
        }
        CHECK.due("of a groove there isn't", x.scratch(1, 0), 5);
        CHECK.due("its odds", x.scratch(1, 6), 25);
        CHECK.due("scratch(2, 0)", x.scratch(2, 0), -1);
        CHECK.due("scratch(-1, 0)", x.scratch(-1, 0), -1);
        CHECK.due("scratch(0, 7)", x.scratch(0, 7), -1);
        CHECK.due("scratch(0, -1)", x.scratch(0, -1), -1);
        x.weigh(9);
        CHECK.due("odds by weight", x.scratch(0, 6), 35);
        CHECK.due("odds are 0 at least", x.scratch(1, 6), 0);
        x.go(1);
        CHECK.due("worn", x.scratch(0, 5), 1);
        CHECK.due("odds by wear", x.scratch(0, 6), 30);
        CHECK.due("odds 100 at most", Check.told("scrat 0 80 1 0 1;law back odds * 10;").scratch(0, 6), 100);
        CHECK.due("odds 0 at least", Check.told("scrat 0 80 1 0 1;law back 0 - odds;").scratch(0, 6), 0);
        CHECK.due("odds with an ERROR", Check.told("scrat 0 80 1 0 1;law back odds / round;").scratch(0, 6), 65);
    }

    private static void guests() {
        CHECK.promise(8);
        StuckGroove x = Check.told(FIVE + "scrat 0 100 1 0 1;law back 100;guest a 1 0 3;guest b 9 8 99;");
        CHECK.due("guest(0, 0)", x.guest(0, 0), 1);
        CHECK.due("guest(1, 0)", x.guest(1, 0), 9);
        CHECK.due("guest(1, 1)", x.guest(1, 1), 8);
        CHECK.due("guest(1, 2)", x.guest(1, 2), 99);
        x.go(4);
        CHECK.due("guest(0, 3)", x.guest(0, 3), 4);
        CHECK.due("guest(1, 3)", x.guest(1, 3), 0);
        CHECK.due("guest(2, 0)", x.guest(2, 0), -1);
        CHECK.due("guest(-1, 0)", x.guest(-1, 0), -1);
        CHECK.due("guest(0, 4)", x.guest(0, 4), -1);
        CHECK.due("guest(0, -1)", x.guest(0, -1), -1);
    }

    private static void lawsOfNames() {
        CHECK.promise(9);
        // BACK of 100 always throws back to GROOVE 0: after 3 TURNS SECONDS are 2 + 2 + 2.
        String scratches = "groove 2 5;groove 1 1;scrat 0 70 1 0 1;scrat 7 30 1 0 1;arm 6;";
        String[] names = {"place", "odds", "worn", "heavy", "round", "heard", "turn"};
        long[] back = {0, 70, 3, 6, 3, 6, 3};
        long[] other = {7, 30, 0, 6, 3, 6, 3};
        long[] worth = {0, 0, 0, 6, 3, 3, 3};
        for (int i = 0; i < 7; i++) {
            StuckGroove x = Check.told(scratches + "law back 100 * (turn < 3) + (turn = 3) * " + names[i] + ";law worth " + names[i] + ";");
            x.go(3);
            CHECK.due("back " + names[i], x.law(0, 0), back[i]);
            CHECK.due("back of the second one " + names[i], x.law(0, 1), other[i]);
            CHECK.due("worth " + names[i], x.law(2, 0), worth[i]);
            CHECK.due("no law of wear", x.law(1, 0), ERROR);
            StuckGroove y = Check.told(scratches + "law back 100;law wear (turn < 3) + (turn = 3) * " + names[i] + ";");
            y.go(3);
            CHECK.due("wear " + names[i], y.law(1, 0), back[i]);
            CHECK.due("no law of worth", y.law(2, 0), ERROR);
        }
        StuckGroove x = Check.told("groove 1 1;scrat 0 1 1 0 1;law back 0 - 5;law wear 500;law worth 1000 + place;");
        CHECK.due("as it is, below 0", x.law(0, 0), -5);
        CHECK.due("as it is, above", x.law(1, 0), 500);
        CHECK.due("as it is, worth", x.law(2, 0), 1000);
        CHECK.due("law(0, 1)", x.law(0, 1), ERROR);
        CHECK.due("law(1, -1)", x.law(1, -1), ERROR);
        CHECK.due("law(2, 1)", x.law(2, 1), ERROR);
        CHECK.due("law(3, 0)", x.law(3, 0), ERROR);
        CHECK.due("law(-1, 0)", x.law(-1, 0), ERROR);
    }

    private static void value(String e, long due) {
        CHECK.due("law worth " + e, Check.told("groove 1 1;law worth " + e + ";").law(2, 0), due);
    }

    private static void lawsOfSigns() {
        CHECK.promise(9);
        value("2 + 3 * 4", 14);
        value("(2 + 3) * 4", 20);
        value("10 - 3 - 2", 5);
        value("100 / 10 / 5", 2);
        value("100 / 10 * 5", 50);
        value("7 * 3 / 2", 10);
        value("7 - 3 + 2", 6);
        value("3 <= 2 + 1", 1);
        value("3 <> 2 + 1", 0);
        value("3 >= 2 + 2", 0);
        value("3 > 1 + 1", 1);
        value("3 = 2 + 1", 1);
        value("(0 - 7) / 2", -3);
        value("7 / (0 - 2)", -3);
        value("not 0", 1);
        value("not 5", 0);
        value("not not 5", 1);
        value("not 1 - 1", 1);
        value("not 0 = 1", 1);
        value("5 and 7", 1);
        value("5 and 0", 0);
        value("0 or 7", 1);
        value("0 or 0", 0);
        value("1 or 0 and 0", 1);
        value("(1 or 0) and 0", 0);
        value("1 < 2 and 2 < 1", 0);
        value("1 + 1 < 3", 1);
        value("(1 < 2) + (1 <= 1) + (1 = 1) + (1 <> 2) + (2 >= 2) + (3 > 2)", 6);
        value("(2 < 2) + (2 <= 1) + (2 = 1) + (2 <> 2) + (1 >= 2) + (2 > 2)", 0);
        value("1 / 0", ERROR);
        value("0 * (1 / 0)", ERROR);
        value("1 or 1 / 0", ERROR);
        value("0 and 1 / 0", ERROR);
        value("1000 * 1000 * 1000 * 1000", 1000000000000L);
        value("1000 * 1000 * 1000 * 1000 + 1", ERROR);
        value("1000 * 1000 * 1000 * 1000 + 1 - 1", ERROR);
        value("0 - 1000 * 1000 * 1000 * 1000", -1000000000000L);
        value("0 - 1000 * 1000 * 1000 * 1000 - 1", ERROR);
        value("(1000 * 1000 * 1000 * 1000) * (1000 * 1000 * 1000 * 1000)", ERROR);
        value("(0 - 1000 * 1000 * 1000 * 1000) * (1000 * 1000 * 1000 * 1000)", ERROR);
        value("(1000 * 1000 * 1000 * 1000) * (0 - 1)", -1000000000000L);
        value("(1000 * 1000 * 1000 * 1000) * 0", 0);
        // 2 to the 32 times 2 to the 32 is 0 in a long.
        value("(256 * 256 * 256 * 256) * (256 * 256 * 256 * 256)", ERROR);
    }

    private static void weights() {
        CHECK.promise(10);
        StuckGroove x = new StuckGroove();
        CHECK.due("weigh(3), as it has", x.weigh(3), false);
        CHECK.due("weigh(-1)", x.weigh(-1), false);
        CHECK.due("weigh(10)", x.weigh(10), false);
        CHECK.due("nothing is done", x.count(13), 0);
        CHECK.due("weigh(0)", x.weigh(0), true);
        CHECK.due("weigh(0) again", x.weigh(0), false);
        CHECK.due("weigh(9)", x.weigh(9), true);
        CHECK.due("count(10)", x.count(10), 9);
    }

    private static void nudges() {
        CHECK.promise(11);
        StuckGroove x = Check.told(FIVE + "scrat 0 100 1 0 1;law back 100;");
        x.go(2);
        CHECK.due("rounds", x.count(9), 2);
        CHECK.due("nudge(0)", x.nudge(0), -1);
        CHECK.due("nudge(10)", x.nudge(10), -1);
        CHECK.due("nudge(-10)", x.nudge(-10), -1);
        CHECK.due("rounds stay", x.count(9), 2);
        CHECK.due("nudge(-1)", x.nudge(-1), 0);
        CHECK.due("rounds are 0", x.count(9), 0);
        CHECK.due("nudge(4)", x.nudge(4), 4);
        CHECK.due("nudge(-2)", x.nudge(-2), 2);
        CHECK.due("nudge(3)", x.nudge(3), -2);
        CHECK.due("count(5)", x.count(5), -2);
        CHECK.due("nudge(-9) when OUT", x.nudge(-9), -1);
        CHECK.due("what can be undone", x.count(13), 4);
        CHECK.due("the turn stays", x.count(4), 2);
    }

    private static void playsAnew() {
        CHECK.promise(12);
        StuckGroove x = Check.told(FIVE + "scrat 2 100 1 0 1;law back 100;");
        CHECK.due("anew() in GROOVE 0", x.anew(), false);
        x.go(3);
        CHECK.due("place", x.count(5), 1);
        CHECK.due("rounds", x.count(9), 1);
        CHECK.due("anew()", x.anew(), true);
        CHECK.due("place anew", x.count(5), 0);
        CHECK.due("rounds anew", x.count(9), 0);
        CHECK.due("seconds stay", x.count(6), 6);
        x.nudge(9);
        CHECK.due("anew() when OUT", x.anew(), true);
        CHECK.due("place anew from OUT", x.count(5), 0);
        CHECK.due("anew() without GROOVES", new StuckGroove().anew(), false);
    }

    private static void is(StuckGroove x, String when, int place, int seconds, int heard, int rounds) {
        CHECK.due(when + ": place", x.count(5), place);
        CHECK.due(when + ": seconds", x.count(6), seconds);
        CHECK.due(when + ": heard", x.count(7), heard);
        CHECK.due(when + ": rounds", x.count(9), rounds);
    }

    private static void turns() {
        CHECK.promise(13);
        StuckGroove x = Check.told(FIVE + "scrat 2 100 2 0 1;law back 69;");
        CHECK.due("go(0)", x.go(0), 0);
        CHECK.due("go(-1)", x.go(-1), -1);
        CHECK.due("go(100)", x.go(100), -1);
        CHECK.due("go(3)", x.go(3), 3);
        is(x, "0 is below 69", 0, 6, 6, 1);
        x.go(2);
        is(x, "without a SCRATCH rounds stay", 2, 9, 9, 1);
        x.go(1);
        is(x, "68 is below 69", 0, 12, 12, 2);
        x.go(3);
        is(x, "88 isn't", 3, 18, 18, 0);
        x.go(9);
        is(x, "OUT", -2, 27, 27, 0);
        CHECK.due("turns go by", x.count(4), 18);
        x = Check.told(FIVE + "scrat 0 0 1 0 1;scrat 1 50 1 0 1;law back odds;");
        x.go(2);
        is(x, "no number, if both odds are 0", 0, 3, 3, 1);
        x = Check.told(FIVE + "scrat 0 0 1 1 3;scrat 3 0 1 68 1;scrat 4 0 1 88 9;law back 0;");
        x.go(1);
        is(x, "0 is below 1: on by 3", 3, 1, 1, 0);
        x.go(1);
        is(x, "68 isn't below 68: the next one", 4, 5, 5, 0);
        x.go(1);
        is(x, "88 isn't below 88: the next one is OUT", -2, 10, 10, 0);
        x = Check.told(FIVE + "scrat 0 30 1 60 4;scrat 4 0 1 69 9;law back odds * (turn > 0);seed 0;");
        x.go(2);
        is(x, "on beyond the last one", -2, 6, 6, 0);
        x = Check.told("groove 1 5;groove 1 5;law worth 98 + heard * 2;");
        x.go(1);
        CHECK.due("heard by the law", x.count(7), 98);
        x.anew();
        x.go(1);
        CHECK.due("no more than 99", x.count(7), 98 + 99);
        x = Check.told("groove 1 5;groove 1 5;law worth 0 - 1;");
        x.go(2);
        CHECK.due("no less than 0", x.count(7), 0);
        x = Check.told("groove 1 5;groove 1 6;law worth 7 / place;");
        x.go(2);
        CHECK.due("WORTH with an ERROR", x.count(7), 12);
        x = Check.told("groove 3 5;scrat 0 0 1 0 1;law back (heard = 3) * 100;");
        x.go(1);
        CHECK.due("the law of back sees the SECONDS of this TURN", x.count(5), 0);
        x = Check.told("groove 1 1;scrat 0 0 1 0 1;law back 100;law wear 3 + round * 10;");
        x.go(1);
        CHECK.due("the law of wear sees ROUNDS ahead of the throw", x.scratch(0, 5), 3);
        x.go(1);
        CHECK.due("wear is 9 at most", x.scratch(0, 5), 12);
        x = Check.told("groove 1 1;scrat 0 0 1 0 1;law back 100;law wear 0 - turn;");
        x.go(5);
        CHECK.due("wear is 0 at least", x.scratch(0, 5), 0);
        x = Check.told("groove 1 1;scrat 0 0 1 0 1;law back 100;law wear 1 / 0;");
        x.go(5);
        CHECK.due("wear is 1 with an ERROR", x.scratch(0, 5), 5);
    }

    private static void guestsGetUp() {
        CHECK.promise(13);
        StuckGroove x = Check.told(FIVE + "scrat 0 100 1 0 1;law back 100;guest a 3 9 1;guest b 2 3 5;guest c 2 9 7;");
        x.go(2);
        // Numbers: 0 and 68 for the throws, 1 of modulo 3 (less 1) for the nudge.
        is(x, "the first one of enough ROUNDS", 3, 2, 2, 0);
        CHECK.due("paid", x.count(8), 5);
        CHECK.due("a", x.guest(0, 3), 0);
        CHECK.due("b", x.guest(1, 3), 1);
        CHECK.due("c", x.guest(2, 3), 0);
        x = Check.told(FIVE + "scrat 0 100 1 0 1;law back 100;guest a 1 3 5;");
        x.go(1);
        is(x, "by 3 less 1", 2, 1, 1, 0);
        x = Check.told(FIVE + "scrat 0 100 1 0 1;law back 100;guest a 1 9 5;");
        x.go(1);
        is(x, "OUT by a NUDGE", -2, 1, 1, 0);
        x = Check.told(FIVE + "scrat 0 100 1 0 1;law back 100 - worn * 20;guest a 1 0 5;");
        x.go(2);
        is(x, "FAR 0: no number, so that 68 is next", 0, 2, 2, 0);
        CHECK.due("FAR 0 is paid", x.count(8), 10);
        x = Check.told(FIVE + "scrat 1 100 1 0 1;law back 100;guest a 1 1 5;");
        x.go(2);
        CHECK.due("a NUDGE by 1 less 1", x.count(5), 0);
        x.go(1);
        CHECK.due("nobody gets up without a throw", x.guest(0, 3), 1);
    }

    private static void lastTurn() {
        CHECK.promise(13);
        StuckGroove x = new StuckGroove();
        for (int i = 1; i <= 101; i++) {
            CHECK.due("go(99)", x.go(99), 99 * i);
        }
        CHECK.due("go(1) behind 9999", x.go(1), -1);
        CHECK.due("go(0) in TURN 9999", x.go(0), 9999);
    }

    private static void undone() {
        CHECK.promise(37);
        StuckGroove x = Check.told(FIVE + "scrat 1 100 1 0 1;law back 100;");
        CHECK.due("undo() of nothing", x.undo(), -1);
        x.go(2);
        CHECK.due("rounds", x.count(9), 1);
        x.nudge(3);
        x.weigh(7);
        x.anew();
        CHECK.due("go(0)", x.go(0), 2);
        CHECK.due("count(13)", x.count(13), 3);
        CHECK.due("undo()", x.undo(), 2);
        CHECK.due("place", x.count(5), 3);
        CHECK.due("undo()", x.undo(), 1);
        CHECK.due("weight", x.count(10), 3);
        CHECK.due("undo()", x.undo(), 0);
        CHECK.due("place", x.count(5), 0);
        CHECK.due("rounds", x.count(9), 1);
        CHECK.due("undo()", x.undo(), -1);
        for (int i = 0; i < 25; i++) {
            x.weigh(i % 10);
        }
        // weigh(3) was none, as it was 3 ahead of weigh(0): all the others were.
        CHECK.due("20 at most", x.count(13), 20);
        for (int i = 19; i >= 0; i--) {
            CHECK.due("undo()", x.undo(), i);
        }
        CHECK.due("the weight ahead of the last 20", x.count(10), 4);
        CHECK.due("undo()", x.undo(), -1);
        x.weigh(9);
        x.go(1);
        CHECK.due("a TURN went by", x.undo(), -1);
        manyUndone();
        x.nudge(9);
        x.go(1);
        CHECK.due("a TURN went by though it is OUT", x.undo(), -1);
        CHECK.due("still OUT", x.count(5), -2);
    }

    /** Of 30 things each of the last 20 is undone to what was ahead of it. */
    private static void manyUndone() {
        StuckGroove x = Check.told(FIVE + "scrat 1 100 1 0 1;law back 100;");
        x.go(2);
        int[][] ahead = new int[30][3];
        for (int i = 0; i < 30; i++) {
            ahead[i] = new int[] {x.count(5), x.count(9), x.count(10)};
            if (i < 15) {
                x.weigh(4 + i % 2);
            } else {
                x.nudge(i % 3 == 0 ? -2 : 1);
            }
        }
        for (int i = 29; i >= 10; i--) {
            CHECK.due("undo() of " + i, x.undo(), i - 10);
            CHECK.due("place ahead of " + i, x.count(5), ahead[i][0]);
            CHECK.due("rounds ahead of " + i, x.count(9), ahead[i][1]);
            CHECK.due("weight ahead of " + i, x.count(10), ahead[i][2]);
        }
        CHECK.due("rounds", x.count(9), 1);
        CHECK.due("undo() of no more", x.undo(), -1);
        x = Check.told(FIVE);
        for (int i = 0; i < 21; i++) {
            x.nudge(i % 2 == 0 ? 3 : -3);
        }
        for (int i = 0; i < 20; i++) {
            x.undo();
            CHECK.due("place behind " + i, x.count(5), i % 2 == 0 ? 0 : 3);
        }
    }

    private static void images() {
        CHECK.promise(38);
        StuckGroove x = Check.told(FIVE + "scrat 1 60 1 0 1;law back 60;guest a 1 0 4;");
        CHECK.due("back() without an image", x.back(), -1);
        x.go(2);
        x.weigh(5);
        CHECK.due("keep()", x.keep(), 2);
        CHECK.due("keep() leaves what can be undone", x.count(13), 1);
        int[] at = new int[11];
        for (int what = 0; what < 11; what++) {
            at[what] = x.count(what);
        }
        CHECK.promise(39);
        for (int time = 0; time < 2; time++) {
            x.go(7);
            x.tape(1, 1, true);
            x.weigh(8);
            x.nudge(1);
            CHECK.due("back()", x.back(), 2);
            for (int what = 0; what < 11; what++) {
                CHECK.due("count(" + what + ")", x.count(what), at[what]);
            }
            CHECK.due("the tape isn't in it", x.count(11), time + 1);
            CHECK.due("undo()", x.undo(), -1);
            CHECK.due("worn", x.scratch(0, 5), 1);
            CHECK.due("played", x.groove(0, 2), 1);
            CHECK.due("got up", x.guest(0, 3), 1);
        }
        x.go(5);
        int place = x.count(5);
        x.back();
        x.go(5);
        CHECK.due("the numbers go on alike", x.count(5), place);
        CHECK.due("keep() in place of one ahead", x.keep(), 7);
        x.go(1);
        CHECK.due("back() to that", x.back(), 7);
        x.known(1);
        x.keep();
        x.known(0);
        x.back();
        CHECK.due("by how many it is KNOWN is in the image", x.count(12), 1);
    }

    private static void counts() {
        CHECK.promise(40);
        StuckGroove x = Check.told(FIVE + "scrat 1 100 1 0 1;scrat 8 1 1 1 1;guest a 9 1 1;law back 50 + 51;law wear turn;arm 8;");
        x.go(4);
        x.tape(3, 1, false);
        x.tape(4, 1, false);
        x.tape(4, 1, true);
        x.known(2);
        x.weigh(1);
        x.nudge(3);
        x.anew();
        x.undo();
        int[] due = {5, 2, 1, 4, 4, 3, 6, 6, 0, 0, 1, 3, 2, 2};
        for (int what = 0; what < due.length; what++) {
            CHECK.due("count(" + what + ")", x.count(what), due[what]);
        }
        CHECK.due("count(-1)", x.count(-1), -1);
        CHECK.due("count(14)", x.count(14), -1);
        x.known(-1);
        CHECK.due("count(12) of all", x.count(12), 3);
    }
}

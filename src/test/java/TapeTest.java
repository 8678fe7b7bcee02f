/** Promises 31 to 34: the TAPE, its STRIKES, what is KNOWN, how far a SCRATCH threw. */
public final class TapeTest {
    private static final Check CHECK = new Check();
    // As it goes it is in GROOVE 4 behind 4 TURNS, and is thrown back by what is asked in the fifth one.
    private static final String TOLD = "groove 1 1;groove 1 1;groove 1 1;groove 1 1;groove 1 1;groove 1 1;"
        + "scrat 4 90 2 0 1;scrat 9 1 1 1 1;guest a 1 9 1;";
    private static final int ALL = 1022;
    private static final int FOUR_UP = 1008;

    public static void main(String[] args) {
        taping();
        striking();
        knowing();
        throwing();
        CHECK.close("TapeTest");
    }

    private static void taping() {
        CHECK.promise(31);
        StuckGroove x = Check.told(TOLD);
        CHECK.due("tape(0, 0, true)", x.tape(0, 0, true), -1);
        CHECK.due("tape(61, 0, true)", x.tape(61, 0, true), -1);
        CHECK.due("tape(1, 6, true)", x.tape(1, 6, true), -1);
        CHECK.due("tape(1, -1, true)", x.tape(1, -1, true), -1);
        CHECK.due("count(11)", x.count(11), 0);
        CHECK.due("without GROOVES", new StuckGroove().tape(1, 0, false), -1);
        for (int i = 0; i < 24; i++) {
            CHECK.due("tape " + i, x.tape(1 + i % 2 * 59, i % 6, false), i);
        }
        CHECK.due("tape of a 25th", x.tape(1, 0, false), -1);
        CHECK.due("strike of a 25th", x.strike(0), -1);
        CHECK.due("count(11)", x.count(11), 24);
    }

    private static void striking() {
        CHECK.promise(32);
        StuckGroove x = Check.told(TOLD);
        CHECK.due("strike(0) of nothing", x.strike(0), -1);
        x.tape(5, 0, true);
        CHECK.due("strike(1)", x.strike(1), -1);
        CHECK.due("strike(-1)", x.strike(-1), -1);
        CHECK.due("strike(0)", x.strike(0), 1);
        CHECK.due("struck", x.threw(0), ALL);
        CHECK.due("strike(1), a strike", x.strike(1), 2);
        CHECK.due("no longer struck", x.threw(0), FOUR_UP);
        CHECK.due("strike(0) again", x.strike(0), 3);
        CHECK.due("struck again", x.threw(0), ALL);
        CHECK.due("strike(2)", x.strike(2), 4);
        CHECK.due("strike(3)", x.strike(3), 5);
        CHECK.due("strike 1 counts once more", x.threw(0), ALL);
        CHECK.due("strike(1)", x.strike(1), 6);
        CHECK.due("none counts", x.threw(0), FOUR_UP);
    }

    private static void knowing() {
        CHECK.promise(33);
        StuckGroove x = Check.told(TOLD);
        CHECK.due("known(1) of none", x.known(1), false);
        CHECK.due("known(0) of none", x.known(0), true);
        CHECK.due("known(-1)", x.known(-1), true);
        x.tape(5, 0, true);
        x.tape(5, 3, false);
        x.tape(5, 3, true);
        x.strike(2);
        x.strike(3);
        int[] due = {ALL, FOUR_UP, FOUR_UP, 0, FOUR_UP, 0};
        for (int n = 0; n < 6; n++) {
            CHECK.due("known(" + n + ")", x.known(n), true);
            CHECK.due("threw by " + n, x.threw(0), due[n]);
            CHECK.due("count(12)", x.count(12), n);
        }
        CHECK.due("known(6)", x.known(6), false);
        CHECK.due("known(-2)", x.known(-2), false);
        CHECK.due("count(12) stays", x.count(12), 5);
        x.strike(4);
        CHECK.due("what comes isn't known by 5", x.threw(0), 0);
        CHECK.due("known(-1)", x.known(-1), true);
        CHECK.due("by all", x.threw(0), FOUR_UP);
        x.tape(5, 0, false);
        CHECK.due("also by those to come", x.threw(0), 0);
    }

    private static void throwing() {
        CHECK.promise(34);
        StuckGroove x = Check.told(TOLD);
        CHECK.due("nothing taped", x.threw(0), ALL);
        CHECK.due("threw(2)", x.threw(2), -1);
        CHECK.due("threw(-1)", x.threw(-1), -1);
        x.weigh(9);
        x.nudge(3);
        x.go(2);
        x.tape(4, 4, true);
        CHECK.due("from the TEXT on", x.threw(0), ALL);
        x.tape(5, 2, false);
        CHECK.due("not by 2", x.threw(0), ALL - 4);
        CHECK.due("a SCRATCH at no GROOVE: 0 throws by 2 as told", x.threw(1), 0);
        x.tape(5, 3, false);
        CHECK.due("nor by 1", x.threw(0), ALL - 6);
        x.tape(6, 2, true);
        CHECK.due("by 3: in 1, then in 2", x.threw(0), 8);
        x = Check.told("groove 1 1;groove 1 1;scrat 1 50 1 0 1;");
        x.tape(2, 1, false);
        x.tape(60, 0, false);
        CHECK.due("OUT is in no GROOVE", x.threw(0), ALL);
        x.tape(60, 1, true);
        CHECK.due("OUT isn't in GROOVE 1", x.threw(0), 0);
    }
}

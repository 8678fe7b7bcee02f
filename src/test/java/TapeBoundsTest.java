/** Both sides of each bound of the TAPE, its STRIKES and what is KNOWN (promises 31 to 34). */
public final class TapeBoundsTest {
    private static final Check CHECK = new Check();
    private static final int[] FAR_OFF = {Integer.MIN_VALUE, Integer.MAX_VALUE};
    // Behind 5 TURNS it is in GROOVE 4 - k, if the SCRATCH throws by k.
    private static final String TOLD = Check.times("groove 1 1;", 6) + "scrat 4 90 2 0 1;scrat 9 1 1 1 1;";
    private static final int ALL = 1022;

    public static void main(String[] args) {
        turnsOnTape();
        groovesOnTape();
        twentyFourOnTape();
        refusedIsNotOnTape();
        strikesOfWhatIsThere();
        twentyFourWithStrikes();
        strikesOfStrikes();
        knownByNoMoreThanThereAre();
        knownByTheFirst();
        knownByAll();
        strikesByKnownOnes();
        scratchesOfThrew();
        oneToNineOfThrew();
        turnsBehindTheText();
        CHECK.close("TapeBoundsTest");
    }

    private static void turnsOnTape() {
        CHECK.sentence("TAPE .. behind so many TURNS 1 .. 60");
        StuckGroove x = Check.told(TOLD);
        for (int turns : new int[] {-1, 0, 61, FAR_OFF[0], FAR_OFF[1]}) {
            CHECK.due("tape(" + turns + ", 0, true)", x.tape(turns, 0, true), -1);
        }
        CHECK.due("tape(1, 1, true)", x.tape(1, 1, true), 0);
        CHECK.due("tape(60, 0, false)", x.tape(60, 0, false), 1);
        CHECK.due("both are there", x.count(11), 2);
        x = Check.told("groove 1 1;groove 1 1;scrat 0 0 1 0 1;law back (turn < 59) * 100;");
        x.tape(60, 1, true);
        CHECK.due("in GROOVE 1 behind 60", x.threw(0), ALL);
        x.tape(59, 1, true);
        CHECK.due("not in GROOVE 1 behind 59", x.threw(0), 0);
    }

    private static void groovesOnTape() {
        CHECK.sentence("tape: NONE: no such ones (of GROOVES)");
        for (int grooves = 0; grooves <= 12; grooves += 4) {
            StuckGroove x = Check.told(Check.times("groove 1 1;", grooves));
            for (int g : new int[] {-2, -1, grooves, 12, FAR_OFF[0], FAR_OFF[1]}) {
                CHECK.due("tape(1, " + g + ", true) of " + grooves, x.tape(1, g, true), -1);
            }
            if (grooves > 0) {
                CHECK.due("tape(1, 0, true) of " + grooves, x.tape(1, 0, true), 0);
                CHECK.due("tape(1, the last one, true) of " + grooves, x.tape(1, grooves - 1, true), 1);
            }
        }
    }

    private static void twentyFourOnTape() {
        CHECK.sentence("TAPE, at most 24, numbered from 0 on .. NONE: .. or there are 24");
        StuckGroove x = Check.told(TOLD);
        for (int i = 0; i < 24; i++) {
            CHECK.due("tape " + i, x.tape(4, 4, true), i);
        }
        CHECK.due("24 are there", x.count(11), 24);
        CHECK.due("a 25th", x.tape(4, 3, true), -1);
        CHECK.due("a 25th that is a STRIKE", x.strike(0), -1);
        CHECK.due("still 24", x.count(11), 24);
        CHECK.due("the 25th isn't asked", x.threw(0), ALL);
        CHECK.due("KNOWN by 24", x.known(24), true);
        CHECK.due("KNOWN by 25", x.known(25), false);
    }

    private static void refusedIsNotOnTape() {
        CHECK.sentence("what is refused isn't on TAPE");
        StuckGroove x = Check.told(TOLD);
        x.tape(4, 4, true);
        x.known(1);
        String state = Check.state(x);
        x.tape(0, 0, true);
        x.tape(61, 0, true);
        x.tape(5, 6, true);
        x.tape(5, -1, true);
        x.strike(1);
        x.strike(-1);
        x.known(2);
        x.known(-2);
        CHECK.due("nothing is done", Check.state(x), state);
        CHECK.due("nothing else is asked", x.threw(0), ALL);
    }

    private static void strikesOfWhatIsThere() {
        CHECK.sentence("A STRIKE: its number; NONE: no such one on TAPE");
        StuckGroove x = Check.told(TOLD);
        CHECK.due("of none", x.strike(0), -1);
        x.tape(5, 3, true);
        for (int taped : new int[] {-1, 1, FAR_OFF[0], FAR_OFF[1]}) {
            CHECK.due("strike(" + taped + ")", x.strike(taped), -1);
        }
        CHECK.due("not STRUCK yet", x.threw(0), 2);
        CHECK.due("strike(0)", x.strike(0), 1);
        CHECK.due("STRUCK", x.threw(0), ALL);
        CHECK.due("strike(2)", x.strike(2), -1);
        CHECK.due("strike(1), itself one", x.strike(1), 2);
        CHECK.due("three are there", x.count(11), 3);
    }

    private static void twentyFourWithStrikes() {
        CHECK.sentence("strike: NONE: .. or there are 24");
        StuckGroove x = Check.told(TOLD);
        x.tape(5, 3, true);
        for (int i = 1; i < 24; i++) {
            CHECK.due("strike " + i, x.strike(i - 1), i);
        }
        CHECK.due("a 25th", x.strike(23), -1);
        CHECK.due("a 25th of TAPE", x.tape(1, 1, true), -1);
        // The last one counts, so every second one ahead of it: 23, 21, .. 1. The one on TAPE is STRUCK.
        CHECK.due("from the last one on", x.threw(0), ALL);
        for (int n = 0; n <= 24; n++) {
            x.known(n);
            CHECK.due("KNOWN by " + n, x.threw(0), n % 2 == 1 ? 2 : ALL);
        }
    }

    private static void strikesOfStrikes() {
        CHECK.sentence("a STRIKE may be STRUCK: then it doesn't count; asked from the last one on");
        StuckGroove x = Check.told(TOLD);
        x.tape(5, 3, true);
        x.strike(0);
        x.strike(0);
        x.strike(1);
        CHECK.due("STRUCK by 2 still", x.threw(0), ALL);
        x.strike(2);
        CHECK.due("by none", x.threw(0), 2);
        x.strike(3);
        CHECK.due("1 counts again", x.threw(0), ALL);
    }

    private static void knownByNoMoreThanThereAre() {
        CHECK.sentence("KNOWN by n from now on (-1: by all ..): true; false: no such n");
        StuckGroove x = Check.told(TOLD);
        CHECK.due("known(0) of none", x.known(0), true);
        CHECK.due("known(1) of none", x.known(1), false);
        CHECK.due("known(-1) of none", x.known(-1), true);
        x.tape(1, 1, true);
        x.strike(0);
        for (int n = -1; n <= 2; n++) {
            CHECK.due("known(" + n + ") of two", x.known(n), true);
            CHECK.due("count(12) by " + n, x.count(12), n < 0 ? 2 : n);
        }
        x.known(1);
        for (int n : new int[] {-2, 3, FAR_OFF[0], FAR_OFF[1]}) {
            CHECK.due("known(" + n + ") of two", x.known(n), false);
            CHECK.due("by 1 still", x.count(12), 1);
        }
    }

    private static void knownByTheFirst() {
        CHECK.sentence("KNOWN by n: the first n that aren't STRUCK by one of these");
        StuckGroove x = Check.told(TOLD);
        x.tape(5, 1, false);
        x.tape(5, 2, false);
        x.tape(5, 3, false);
        int[] due = {ALL, ALL - 8, ALL - 8 - 4, ALL - 8 - 4 - 2};
        for (int n = 0; n <= 3; n++) {
            x.known(n);
            CHECK.due("by " + n, x.threw(0), due[n]);
        }
    }

    private static void knownByAll() {
        CHECK.sentence("-1: by all, also those to come");
        StuckGroove x = Check.told(TOLD);
        x.tape(5, 1, false);
        x.known(1);
        x.tape(5, 2, false);
        CHECK.due("by 1: not those to come", x.threw(0), ALL - 8);
        CHECK.due("by 1", x.count(12), 1);
        x.known(-1);
        CHECK.due("by all", x.threw(0), ALL - 8 - 4);
        x.tape(5, 3, false);
        CHECK.due("by all to come", x.threw(0), ALL - 8 - 4 - 2);
        CHECK.due("by three", x.count(12), 3);
        CHECK.sentence("KNOWN by n (all at first)");
        x = Check.told(TOLD);
        x.tape(5, 1, false);
        CHECK.due("at first", x.threw(0), ALL - 8);
    }

    private static void strikesByKnownOnes() {
        CHECK.sentence("STRUCK by one of these");
        StuckGroove x = Check.told(TOLD);
        x.tape(5, 1, false);
        x.strike(0);
        x.strike(1);
        int[] due = {ALL, ALL - 8, ALL, ALL - 8};
        for (int n = 0; n <= 3; n++) {
            x.known(n);
            CHECK.due("by " + n, x.threw(0), due[n]);
        }
    }

    private static void scratchesOfThrew() {
        CHECK.sentence("threw: NONE: no such SCRATCH");
        StuckGroove x = Check.told(TOLD);
        CHECK.due("threw(0)", x.threw(0), ALL);
        CHECK.due("threw(1), at a GROOVE there isn't", x.threw(1), ALL);
        for (int s : new int[] {-1, 2, FAR_OFF[0], FAR_OFF[1]}) {
            CHECK.due("threw(" + s + ")", x.threw(s), -1);
        }
        CHECK.due("without SCRATCHES", new StuckGroove().threw(0), -1);
        x = Check.told("scrat 0 1 1 1 1;scrat 1 1 1 1 1;scrat 2 1 1 1 1;scrat 3 1 1 1 1;");
        CHECK.due("threw(3) without GROOVES", x.threw(3), ALL);
        CHECK.due("threw(4) without GROOVES", x.threw(4), -1);
    }

    private static void oneToNineOfThrew() {
        CHECK.sentence("THREW: by how many GROOVES 1 .. 9 (bits) .. (bit k: by k)");
        String told = Check.times("groove 1 1;", 12) + "scrat 10 0 3 0 1;law back 100;";
        for (int by = 1; by <= 9; by++) {
            StuckGroove x = Check.told(told);
            x.tape(11, 10 - by, true);
            CHECK.due("in GROOVE " + (10 - by) + " behind 11", x.threw(0), 1 << by);
            x.strike(0);
            x.tape(11, 10 - by, false);
            CHECK.due("not in GROOVE " + (10 - by) + " behind 11", x.threw(0), ALL - (1 << by));
        }
        StuckGroove x = Check.told(told);
        x.tape(11, 0, true);
        CHECK.due("by 10 is none", x.threw(0), 0);
        x = Check.told(told);
        x.tape(11, 10, true);
        CHECK.due("by 0 is none", x.threw(0), 0);
        CHECK.due("told is 3 still", x.scratch(0, 2), 3);
    }

    private static void turnsBehindTheText() {
        CHECK.sentence("(as it goes from the TEXT on, without GUESTS)");
        StuckGroove x = Check.told("groove 1 1;groove 1 1;scrat 0 100 1 0 1;arm 9;guest a 1 9 1;law back (heavy = 9) * 100;");
        x.go(3);
        x.weigh(0);
        x.nudge(1);
        x.tape(1, 0, true);
        x.tape(60, 0, true);
        CHECK.due("by the WEIGHT told, without GUESTS", x.threw(0), ALL);
        x = Check.told("groove 1 1;groove 1 1;");
        CHECK.due("OUT isn't a GROOVE", x.tape(2, 0, false), 0);
        CHECK.due("nor the other", x.tape(2, 1, false), 1);
        x = Check.told("groove 1 1;groove 1 1;scrat 0 0 1 0 1;");
        x.tape(1, 1, true);
        x.tape(2, 0, false);
        x.tape(2, 1, false);
        CHECK.due("OUT is in none", x.threw(0), ALL);
        x.tape(2, 1, true);
        CHECK.due("OUT isn't in GROOVE 1", x.threw(0), 0);
    }
}

import java.util.NoSuchElementException;

/** Both sides of each bound of TURNS, laws and calls that change something ('==== 2.', '==== 4.', promises 6 to 13, 37 to 40). */
public final class TurnBoundsTest {
    private static final Check CHECK = new Check();
    private static final long ERROR = Long.MIN_VALUE;
    private static final String FIVE = Check.times("groove 1 1;", 5);
    private static final String STUCK = "groove 1 1;scrat 0 100 1 0 1;law back 100;";

    public static void main(String[] args) {
        withoutGroovesItIsOut();
        noSuchGroove();
        noSuchWhatOfAGroove();
        noSuchScratch();
        noSuchGuest();
        noSuchLaw();
        lawsAsOfNow();
        worthIsCut();
        worthWithoutALaw();
        oddsOfBackAreCut();
        oddsOfBackWithoutALaw();
        oddsOfOnAreCut();
        noNumberIfBothAreNothing();
        numbersBelowBack();
        numbersBelowBoth();
        backToTheFirst();
        onBeyondTheLast();
        wearIsCut();
        roundsCount();
        guestsOfEnoughRounds();
        theFirstGuest();
        guestsByANumberOfThree();
        guestsNudgeOut();
        guestsOfFarNothing();
        valuesUpToABillionTimesAThousand();
        dividing();
        truth();
        numbersOfThirtyOneBits();
        weights();
        nudges();
        nudgesToBothEnds();
        playsAnew();
        turnsOfOneCall();
        turnsUpTo9999();
        turnsWhileOut();
        twentyToUndo();
        undoneToWhatWas();
        roundsOfTheTwentyToUndo();
        nothingToUndoBehindATurn();
        refusedCallsCantBeUndone();
        noImage();
        oneImage();
        nothingToUndoBehindAnImage();
        counts();
        CHECK.close("TurnBoundsTest");
    }

    private static void withoutGroovesItIsOut() {
        CHECK.sentence("The needle is in a GROOVE (0 at first) or OUT (in none, if there are no GROOVES)");
        CHECK.due("without", Check.told("arm 1;").count(5), -2);
        CHECK.due("with one", Check.told("groove 1 1;").count(5), 0);
    }

    /** What groove() answers; 1001 for an IndexOutOfBoundsException, 1002 for a NoSuchElementException. */
    private static int groove(StuckGroove x, int groove, int what) {
        try {
            return x.groove(groove, what);
        } catch (IndexOutOfBoundsException e) {
            return 1001;
        } catch (NoSuchElementException e) {
            return 1002;
        }
    }

    private static void noSuchGroove() {
        CHECK.sentence("IndexOutOfBoundsException: no such GROOVE");
        StuckGroove x = Check.told(Check.times("groove 1 2;", 12));
        CHECK.due("groove(0, 1)", groove(x, 0, 1), 2);
        CHECK.due("groove(11, 1)", groove(x, 11, 1), 2);
        for (int g : new int[] {-1, 12, Integer.MIN_VALUE, Integer.MAX_VALUE}) {
            CHECK.due("groove(" + g + ", 1)", groove(x, g, 1), 1001);
        }
        x = Check.told("groove 1 2;");
        CHECK.due("groove(1, 1) of one", groove(x, 1, 1), 1001);
        CHECK.due("groove(0, 0) of none", groove(new StuckGroove(), 0, 0), 1001);
    }

    private static void noSuchWhatOfAGroove() {
        CHECK.sentence("NoSuchElementException: no such what");
        StuckGroove x = Check.told("groove 7 2;scrat 0 1 1 1 1;groove 1 1;scrat 2 1 1 1 1;");
        int[] due = {7, 2, 0, 0};
        for (int what = 0; what <= 3; what++) {
            CHECK.due("groove(0, " + what + ")", groove(x, 0, what), due[what]);
        }
        for (int what : new int[] {-1, 4, Integer.MIN_VALUE, Integer.MAX_VALUE}) {
            CHECK.due("groove(0, " + what + ")", groove(x, 0, what), 1002);
        }
        CHECK.sentence("3 the SCRATCH there (NONE)");
        CHECK.due("groove(1, 3)", groove(x, 1, 3), -1);
    }

    private static void noSuchScratch() {
        CHECK.sentence("scratch: NONE: no such ones");
        StuckGroove x = Check.told("scrat 9 8 7 6 5;scrat 0 1 1 1 1;scrat 1 1 1 1 1;scrat 11 4 3 2 1;arm 0;");
        int[][] due = {{9, 8, 7, 6, 5, 0, 8}, {11, 4, 3, 2, 1, 0, 4}};
        for (int what = 0; what <= 6; what++) {
            CHECK.due("scratch(0, " + what + ")", x.scratch(0, what), due[0][what]);
            CHECK.due("scratch(3, " + what + ")", x.scratch(3, what), due[1][what]);
            for (int s : new int[] {-1, 4, Integer.MIN_VALUE, Integer.MAX_VALUE}) {
                CHECK.due("scratch(" + s + ", " + what + ")", x.scratch(s, what), -1);
            }
            CHECK.due("of none, scratch(0, " + what + ")", new StuckGroove().scratch(0, what), -1);
        }
        for (int what : new int[] {-1, 7, Integer.MIN_VALUE, Integer.MAX_VALUE}) {
            CHECK.due("scratch(0, " + what + ")", x.scratch(0, what), -1);
        }
    }

    private static void noSuchGuest() {
        CHECK.sentence("guest: NONE: no such ones");
        StuckGroove x = Check.told("guest a 9 8 76;guest b 1 1 1;guest c 1 1 1;guest d 1 0 99;");
        int[][] due = {{9, 8, 76, 0}, {1, 0, 99, 0}};
        for (int what = 0; what <= 3; what++) {
            CHECK.due("guest(0, " + what + ")", x.guest(0, what), due[0][what]);
            CHECK.due("guest(3, " + what + ")", x.guest(3, what), due[1][what]);
            for (int g : new int[] {-1, 4, Integer.MIN_VALUE, Integer.MAX_VALUE}) {
                CHECK.due("guest(" + g + ", " + what + ")", x.guest(g, what), -1);
            }
            CHECK.due("of none, guest(0, " + what + ")", new StuckGroove().guest(0, what), -1);
        }
        for (int what : new int[] {-1, 4, Integer.MIN_VALUE, Integer.MAX_VALUE}) {
            CHECK.due("guest(0, " + what + ")", x.guest(0, what), -1);
        }
    }

    private static void noSuchLaw() {
        CHECK.sentence("Long.MIN_VALUE: an ERROR, no such law, no such ones");
        StuckGroove x = Check.told("groove 1 1;groove 1 1;scrat 0 1 1 1 1;law back 5;law wear 6;law worth 7;");
        CHECK.due("law(0, 0)", x.law(0, 0), 5);
        CHECK.due("law(1, 0)", x.law(1, 0), 6);
        CHECK.due("law(2, 1)", x.law(2, 1), 7);
        for (int which : new int[] {-1, 1, Integer.MIN_VALUE, Integer.MAX_VALUE}) {
            CHECK.due("law(0, " + which + ")", x.law(0, which), ERROR);
            CHECK.due("law(1, " + which + ")", x.law(1, which), ERROR);
        }
        for (int which : new int[] {-1, 2, Integer.MIN_VALUE, Integer.MAX_VALUE}) {
            CHECK.due("law(2, " + which + ")", x.law(2, which), ERROR);
        }
        for (int what : new int[] {-1, 3, Integer.MIN_VALUE, Integer.MAX_VALUE}) {
            CHECK.due("law(" + what + ", 0)", x.law(what, 0), ERROR);
        }
        String told = "groove 1 1;scrat 0 1 1 1 1;";
        String[] laws = {"back", "wear", "worth"};
        for (int what = 0; what < 3; what++) {
            CHECK.due("law(" + what + ", 0) without", Check.told(told).law(what, 0), ERROR);
            CHECK.due("law(" + what + ", 0) of 0", Check.told(told + "law " + laws[what] + " 0;").law(what, 0), 0);
            CHECK.due("law(" + what + ", 0) by 0", Check.told(told + "law " + laws[what] + " 1/0;").law(what, 0), ERROR);
            CHECK.due("law(" + what + ", 0) of the others", Check.told(told + "law " + laws[(what + 1) % 3] + " 1;law "
                + laws[(what + 2) % 3] + " 1;").law(what, 0), ERROR);
        }
    }

    /** Nothing of the NAMES is left from what was worked out ahead. */
    private static void lawsAsOfNow() {
        CHECK.sentence("A law's E now .. odds: .. (of worth 0); worn: .. (of worth 0); heavy: WEIGHT; round: ROUNDS");
        String told = "groove 3 1;groove 5 1;scrat 0 40 1 0 1;scrat 1 60 1 0 1;";
        String[] names = {"place", "odds", "worn", "heavy", "round", "heard", "turn"};
        // Of SCRATCH 0 and 1, then of GROOVE 0 and 1, behind a TURN that threw it BACK and a WEIGHT of 8.
        int[][] due = {{0, 1, 0, 1}, {40, 60, 0, 0}, {2, 0, 0, 0}, {8, 8, 8, 8}, {1, 1, 1, 1}, {3, 3, 1, 0}, {1, 1, 1, 1}};
        for (int i = 0; i < names.length; i++) {
            StuckGroove x = Check.told(told + "law back " + names[i] + "+100*(turn<1);law wear " + names[i] + "+2;law worth " + names[i] + ";");
            x.go(1);
            x.weigh(7);
            x.law(0, 0);
            x.weigh(8);
            CHECK.due("worth " + names[i] + " behind a WEIGHT", x.law(2, 0), due[i][2]);
            x.weigh(7);
            x.law(2, 0);
            x.weigh(8);
            for (int time = 0; time < 2; time++) {
                for (int which = 0; which < 2; which++) {
                    CHECK.due("back " + names[i] + " of " + which, x.law(0, which), due[i][which]);
                    CHECK.due("worth " + names[i] + " of " + which, x.law(2, which), due[i][2 + which]);
                    CHECK.due("wear " + names[i] + " of " + which, x.law(1, which), due[i][which] + 2);
                    CHECK.due("odds by " + names[i] + " of " + which, x.scratch(which, 6), due[i][which]);
                }
            }
            x.nudge(1);
            boolean rounds = names[i].equals("round");
            CHECK.due("ROUNDS are 0 now, back " + names[i], x.law(0, 0), rounds ? 0 : due[i][0]);
            CHECK.due("ROUNDS are 0 now, worth " + names[i], x.law(2, 0), rounds ? 0 : due[i][2]);
        }
    }

    private static int heardOnce(String e) {
        StuckGroove x = Check.told("groove 1 4;law worth " + e + ";");
        x.go(1);
        CHECK.due("asked for " + e, Check.told("groove 1 4;law worth " + e + ";").out(1, 2), x.count(7));
        return x.count(7);
    }

    private static void worthIsCut() {
        CHECK.sentence("E of worth (0 .. 99)");
        CHECK.due("0 - 1", heardOnce("0-1"), 0);
        CHECK.due("0", heardOnce("0"), 0);
        CHECK.due("1", heardOnce("1"), 1);
        CHECK.due("99", heardOnce("99"), 99);
        CHECK.due("100", heardOnce("100"), 99);
        CHECK.due("10 to the 12", heardOnce("1000*1000*1000*1000"), 99);
        CHECK.due("below 0 by as much", heardOnce("0-1000*1000*1000*1000"), 0);
    }

    private static void worthWithoutALaw() {
        CHECK.sentence("E of worth (WORTH without, with an ERROR)");
        CHECK.due("/ by 0", heardOnce("1/0"), 4);
        CHECK.due("above 10 to the 12", heardOnce("1000*1000*1000*1000+1"), 4);
        CHECK.due("below 0 by more", heardOnce("0-1000*1000*1000*1000-1"), 4);
        StuckGroove x = Check.told("groove 1 0;groove 1 9;");
        x.go(1);
        CHECK.due("WORTH 0", x.count(7), 0);
        x.go(1);
        CHECK.due("WORTH 9", x.count(7), 9);
    }

    private static int oddsBy(String e) {
        return Check.told("scrat 0 40 1 0 1;arm 1;law back " + e + ";").scratch(0, 6);
    }

    private static void oddsOfBackAreCut() {
        CHECK.sentence("odds of BACK: E of back (0 .. 100)");
        CHECK.due("0 - 1", oddsBy("0-1"), 0);
        CHECK.due("0", oddsBy("0"), 0);
        CHECK.due("1", oddsBy("1"), 1);
        CHECK.due("100", oddsBy("100"), 100);
        CHECK.due("101", oddsBy("101"), 100);
        CHECK.due("10 to the 12", oddsBy("1000*1000*1000*1000"), 100);
        CHECK.due("below 0 by as much", oddsBy("0-1000*1000*1000*1000"), 0);
        CHECK.sentence("odds of BACK: BACK less .. with an ERROR");
        CHECK.due("/ by 0", oddsBy("1/0"), 35);
        CHECK.due("above 10 to the 12", oddsBy("1000*1000*1000*1000+1"), 35);
        CHECK.due("below 0 by more", oddsBy("0-1000*1000*1000*1000-1"), 35);
    }

    private static void oddsOfBackWithoutALaw() {
        CHECK.sentence("BACK less 5 times how often it was WORN and 5 times WEIGHT, 0 at least, without");
        int[][] due = {{0, 0, 0}, {0, 1, 0}, {4, 1, 0}, {5, 1, 0}, {6, 1, 1}, {45, 9, 0}, {46, 9, 1}, {44, 9, 0}, {100, 0, 100}, {100, 9, 55}};
        for (int[] row : due) {
            StuckGroove x = Check.told("scrat 0 " + row[0] + " 1 0 1;arm " + row[1] + ";");
            CHECK.due("BACK " + row[0] + " by WEIGHT " + row[1], x.scratch(0, 6), row[2]);
        }
        // Worn by 7 in the one TURN that passes it.
        StuckGroove x = Check.told("groove 1 1;scrat 0 36 1 0 1;arm 0;law wear 7;");
        x.go(1);
        CHECK.due("36 less 35", x.scratch(0, 6), 1);
        x.weigh(1);
        CHECK.due("36 less 40", x.scratch(0, 6), 0);
    }

    private static void oddsOfOnAreCut() {
        CHECK.sentence("of ON: as told, no more than what 100 less those of BACK are");
        // Told 60: left are 61, 60, 59, 1 and 0.
        int[][] due = {{39, 60, 1}, {40, 60, 0}, {41, 59, 0}, {99, 1, 0}, {100, 0, 0}};
        for (int[] row : due) {
            StuckGroove x = Check.told("groove 1 1;groove 1 1;groove 1 1;scrat 0 0 1 60 2;law back " + row[0] + ";");
            int[] ways = {row[0], row[2], row[1]};
            for (int g = 0; g < 3; g++) {
                long above = x.likely(1, g, 0);
                long below = x.likely(1, g, 1);
                CHECK.due("BACK of " + row[0] + ", GROOVE " + g, above * 100, ways[g] * below);
            }
        }
        StuckGroove x = Check.told("groove 1 1;groove 1 1;groove 1 1;scrat 0 0 1 60 2;law back 50;");
        CHECK.due("as it goes: BACK", x.reaches(2, 99), -2);
        x = Check.told("groove 1 1;groove 1 1;groove 1 1;scrat 0 0 1 60 2;law back 49;");
        CHECK.due("as it goes: ON", x.reaches(2, 99), 2);
        x = Check.told("groove 1 1;groove 1 1;groove 1 1;scrat 0 0 1 50 2;law back 0;");
        CHECK.due("as it goes: ON by 50", x.reaches(2, 99), 2);
        x = Check.told("groove 1 1;groove 1 1;groove 1 1;scrat 0 0 1 49 2;law back 0;");
        CHECK.due("as it goes: the next one by 49", x.reaches(2, 99), 3);
    }

    /** From seed 0 on the numbers are 0, 68, 88 modulo 100: BACK of 60 lets it through, if a number was drawn ahead. */
    private static void noNumberIfBothAreNothing() {
        CHECK.sentence("A number modulo 100 (no number, if both are 0)");
        String told = "groove 1 1;groove 1 1;groove 1 1;scrat 1 60 1 0 1;law back odds;";
        int[] places = {0, 2, 2};
        String[] first = {"scrat 0 0 1 0 1;", "scrat 0 0 1 1 1;", "scrat 0 1 1 0 1;"};
        for (int i = 0; i < 3; i++) {
            StuckGroove x = Check.told(told + first[i]);
            x.go(i == 2 ? 3 : 2);
            CHECK.due("behind " + first[i], x.count(5), places[i]);
        }
        StuckGroove none = Check.told(FIVE + "scrat 0 0 1 0 3;scrat 1 0 1 0 3;law back 0;");
        none.go(1);
        CHECK.due("to the next one, not ON", none.count(5), 1);
        CHECK.due("nor as it goes", none.reaches(2, 9), 2);
        // Odds of 20 and 20: the numbers 0, 68 and 88 throw it BACK and let it through twice.
        StuckGroove x = Check.told("groove 1 1;groove 1 1;scrat 0 20 1 20 1;scrat 1 20 1 20 1;law back 20;");
        int[] alike = {0, 1, -2};
        for (int i = 0; i < 3; i++) {
            x.go(1);
            CHECK.due("odds alike, behind TURN " + i, x.count(5), alike[i]);
        }
    }

    private static int placeBehind(int hundredth, int back, int on) {
        StuckGroove x = Check.told("groove 1 1;groove 1 1;groove 1 1;groove 1 1;scrat 1 0 1 " + on + " 2;law back " + back + ";seed "
            + Check.seedFor(hundredth) + ";");
        x.go(2);
        return x.count(5);
    }

    private static void numbersBelowBack() {
        CHECK.sentence("below those of BACK it goes BACK by so many");
        CHECK.due("0 of 1", placeBehind(0, 1, 0), 0);
        CHECK.due("1 of 1", placeBehind(1, 1, 0), 2);
        CHECK.due("49 of 50", placeBehind(49, 50, 0), 0);
        CHECK.due("50 of 50", placeBehind(50, 50, 0), 2);
        CHECK.due("98 of 99", placeBehind(98, 99, 0), 0);
        CHECK.due("99 of 99", placeBehind(99, 99, 0), 2);
        CHECK.due("99 of 100", placeBehind(99, 100, 0), 0);
    }

    private static void numbersBelowBoth() {
        CHECK.sentence("below both in sum ON by so many, else to the next one");
        CHECK.due("29 of 30 and 40", placeBehind(29, 30, 40), 0);
        CHECK.due("30 of 30 and 40", placeBehind(30, 30, 40), 3);
        CHECK.due("69 of 30 and 40", placeBehind(69, 30, 40), 3);
        CHECK.due("70 of 30 and 40", placeBehind(70, 30, 40), 2);
        CHECK.due("0 of 0 and 1", placeBehind(0, 0, 1), 3);
        CHECK.due("1 of 0 and 1", placeBehind(1, 0, 1), 2);
        CHECK.due("99 of 60 and 40", placeBehind(99, 60, 100), 3);
        CHECK.due("59 of 60 and 40", placeBehind(59, 60, 100), 0);
    }

    private static void backToTheFirst() {
        CHECK.sentence("BACK by so many (to GROOVE 0 at least)");
        int[] due = {3, 2, 1, 0, 0, 0, 0, 0, 0};
        for (int by = 1; by <= 9; by++) {
            StuckGroove x = Check.told(FIVE + "scrat 4 0 " + by + " 0 1;law back 100;");
            x.go(5);
            CHECK.due("from 4 by " + by, x.count(5), due[by - 1]);
        }
    }

    private static void onBeyondTheLast() {
        CHECK.sentence("Beyond the last one it is OUT");
        int[] due = {1, 2, 3, 4, -2, -2, -2, -2, -2};
        for (int by = 1; by <= 9; by++) {
            StuckGroove x = Check.told(FIVE + "scrat 0 0 1 100 " + by + ";");
            x.go(1);
            CHECK.due("from 0 ON by " + by, x.count(5), due[by - 1]);
        }
        StuckGroove x = Check.told(FIVE);
        x.go(4);
        CHECK.due("in the last one", x.count(5), 4);
        x.go(1);
        CHECK.due("to the next one", x.count(5), -2);
        x = Check.told(FIVE + "scrat 4 0 1 0 1;");
        x.go(5);
        CHECK.due("to the next one behind a SCRATCH", x.count(5), -2);
    }

    private static int wornOnce(String e) {
        StuckGroove x = Check.told("groove 1 1;scrat 0 0 1 0 1;law wear " + e + ";");
        x.go(1);
        return x.scratch(0, 5);
    }

    private static void wearIsCut() {
        CHECK.sentence("WORN by E of wear (0 .. 9; 1 without, with an ERROR) more");
        CHECK.due("0 - 1", wornOnce("0-1"), 0);
        CHECK.due("0", wornOnce("0"), 0);
        CHECK.due("2", wornOnce("2"), 2);
        CHECK.due("9", wornOnce("9"), 9);
        CHECK.due("10", wornOnce("10"), 9);
        CHECK.due("10 to the 12", wornOnce("1000*1000*1000*1000"), 9);
        CHECK.due("below 0 by as much", wornOnce("0-1000*1000*1000*1000"), 0);
        CHECK.due("/ by 0", wornOnce("1/0"), 1);
        CHECK.due("above 10 to the 12", wornOnce("1000*1000*1000*1000+1"), 1);
        StuckGroove x = Check.told("groove 1 1;scrat 0 0 1 0 1;");
        x.go(1);
        CHECK.due("without", x.scratch(0, 5), 1);
        x.go(1);
        CHECK.due("no more when OUT", x.scratch(0, 5), 1);
    }

    private static void roundsCount() {
        CHECK.sentence("a ROUND more, else ROUNDS are 0 behind a SCRATCH (without one they stay)");
        StuckGroove x = Check.told("groove 1 1;groove 1 1;groove 1 1;scrat 1 0 1 0 1;law back (turn < 5) * 100;");
        int[] due = {0, 1, 1, 2, 2, 0, 0};
        for (int i = 0; i < due.length; i++) {
            x.go(1);
            CHECK.due("behind TURN " + i, x.count(9), due[i]);
        }
        x = Check.told("groove 1 1;groove 1 1;groove 1 1;groove 1 1;scrat 0 0 1 100 2;scrat 2 0 2 0 1;law back (place = 2 or turn = 0) * 100;");
        x.go(1);
        CHECK.due("BACK in GROOVE 0 is a ROUND too", x.count(9), 1);
        x.go(1);
        CHECK.due("ON: ROUNDS are 0", x.count(9), 0);
        x.go(1);
        CHECK.due("BACK again", x.count(9), 1);
        x = Check.told(STUCK + "law worth round;");
        int heard = 0;
        for (int i = 0; i < 9; i++) {
            heard += i;
            x.go(1);
            CHECK.due("the law of worth sees ROUNDS of TURNS ahead", x.count(7), heard);
        }
    }

    private static void guestsOfEnoughRounds() {
        CHECK.sentence("the first GUEST by numbers whose ROUNDS are no more than those there are gets up");
        for (int rounds = 1; rounds <= 9; rounds++) {
            StuckGroove x = Check.told(STUCK + "guest a " + rounds + " 0 9;");
            x.go(rounds - 1);
            CHECK.due(rounds + " ROUNDS, one less", x.guest(0, 3), 0);
            CHECK.due(rounds + " ROUNDS, one less there are", x.count(9), rounds - 1);
            CHECK.due(rounds + " ROUNDS, one less is not PAID", x.count(8), 0);
            x.go(1);
            CHECK.due(rounds + " ROUNDS", x.guest(0, 3), 1);
            CHECK.sentence("COST is PAID; ROUNDS are 0");
            CHECK.due(rounds + " ROUNDS, PAID", x.count(8), 9);
            CHECK.due(rounds + " ROUNDS are 0", x.count(9), 0);
        }
        StuckGroove x = Check.told(FIVE + "scrat 0 0 1 0 1;guest a 1 1 1;");
        x.go(5);
        CHECK.sentence("if it was thrown BACK in this TURN");
        CHECK.due("it wasn't", x.guest(0, 3), 0);
    }

    private static void theFirstGuest() {
        CHECK.sentence("the first GUEST by numbers");
        StuckGroove x = Check.told(STUCK + "guest a 3 0 1;guest b 2 0 10;guest c 2 0 20;guest d 1 0 30;");
        x.go(1);
        CHECK.due("d alone has enough", x.count(8), 30);
        x = Check.told(STUCK + "guest a 3 0 1;guest b 2 0 10;guest c 2 0 20;guest d 9 0 30;");
        x.go(2);
        CHECK.due("b is ahead of c", x.count(8), 10);
        x.go(2);
        CHECK.due("and again", x.guest(1, 3), 2);
        CHECK.due("never c", x.guest(2, 3), 0);
        CHECK.due("never a", x.guest(0, 3), 0);
    }

    /** Of seed 0 the second number is 0 modulo 3; the seeds for the others are looked for. */
    private static void guestsByANumberOfThree() {
        CHECK.sentence("on by FAR and a number modulo 3 less 1");
        int[] found = {0, 0, 0};
        for (int seed = 0; seed < 30; seed++) {
            long one = (seed * 1103515245L + 12345L) % 2147483648L;
            long two = (one * 1103515245L + 12345L) % 2147483648L;
            int more = (int) (two / 65536 % 3);
            found[more]++;
            StuckGroove x = Check.told(FIVE + "scrat 0 0 1 0 1;law back 100;guest a 1 2 1;seed " + seed + ";");
            x.go(1);
            CHECK.due("seed " + seed, x.count(5), 2 + more - 1);
            x = Check.told(FIVE + "scrat 0 0 1 0 1;law back 100;guest a 1 1 1;seed " + seed + ";");
            x.go(1);
            CHECK.due("by FAR 1, seed " + seed, x.count(5), more);
        }
        CHECK.due("all three were there", found[0] > 0 && found[1] > 0 && found[2] > 0, true);
    }

    private static void guestsNudgeOut() {
        CHECK.sentence("a GUEST NUDGES .. beyond the last one OUT");
        String told = "scrat 0 0 1 0 1;law back 100;guest a 1 9 1;seed 0;";
        // The number is 0 modulo 3: by 9 less 1.
        StuckGroove x = Check.told(Check.times("groove 1 1;", 9) + told);
        x.go(1);
        CHECK.due("to the last one of nine", x.count(5), 8);
        x = Check.told(Check.times("groove 1 1;", 8) + told);
        x.go(1);
        CHECK.due("beyond the last one of eight", x.count(5), -2);
    }

    private static void guestsOfFarNothing() {
        CHECK.sentence("(no number and not at all, if FAR is 0 ..)");
        // From seed 0 on: 0 throws back, 68 is next, if no number went by: below 69 it throws back.
        StuckGroove x = Check.told(FIVE + "scrat 1 0 1 0 1;law back 69;guest a 1 0 5;seed 0;");
        x.go(2);
        CHECK.due("thrown BACK", x.count(5), 0);
        CHECK.due("it got up", x.guest(0, 3), 1);
        CHECK.due("COST is PAID", x.count(8), 5);
        CHECK.due("ROUNDS are 0", x.count(9), 0);
        x.go(2);
        CHECK.due("68 is below 69", x.count(5), 0);
        x.go(2);
        CHECK.due("88 isn't", x.count(5), 2);
    }

    private static long value(String e) {
        return Check.told("groove 1 1;law worth " + e + ";").law(2, 0);
    }

    private static void valuesUpToABillionTimesAThousand() {
        CHECK.sentence("ERROR: .. a value above 10 to the 12 or below 0 by more than that");
        String top = "1000*1000*1000*1000";
        CHECK.due("10 to the 12", value(top), 1000000000000L);
        CHECK.due("and 1", value(top + "+1"), ERROR);
        CHECK.due("less 1", value(top + "-1"), 999999999999L);
        CHECK.due("below 0", value("0-" + top), -1000000000000L);
        CHECK.due("below 0 and 1", value("0-" + top + "-1"), ERROR);
        CHECK.due("below 0 less 1", value("0-" + top + "+1"), -999999999999L);
        CHECK.due("a part above", value(top + "+1-1"), ERROR);
        CHECK.due("a part below", value("0-" + top + "-1+1"), ERROR);
        CHECK.due("a part that isn't needed", value("0*(" + top + "+1)"), ERROR);
        CHECK.due("a side of a comparison", value("1<" + top + "+1"), ERROR);
        CHECK.due("a side of or", value("1 or " + top + "+1"), ERROR);
        CHECK.due("not of it", value("not " + top + "+1"), ERROR);
        CHECK.due("times 1", value("(" + top + ")*1"), 1000000000000L);
        CHECK.due("times 0 less 1", value("(" + top + ")*(0-1)"), -1000000000000L);
        CHECK.due("times 2", value("(" + top + ")*2"), ERROR);
        CHECK.due("times 0 less 2", value("(" + top + ")*(0-2)"), ERROR);
        CHECK.due("times itself", value("(" + top + ")*(" + top + ")"), ERROR);
        CHECK.due("below 0 times 1", value("(0-" + top + ")*1"), -1000000000000L);
        CHECK.due("below 0 times 2", value("(0-" + top + ")*2"), ERROR);
        CHECK.due("below 0 times 0 less 1", value("(0-" + top + ")*(0-1)"), 1000000000000L);
        CHECK.due("below 0 times 0 less 2", value("(0-" + top + ")*(0-2)"), ERROR);
        CHECK.due("small ones", value("(0-7)*2"), -14);
        CHECK.due("small ones", value("7*(0-2)"), -14);
        CHECK.due("small ones", value("(0-7)*(0-2)"), 14);
        CHECK.due("0 times below 0", value("0*(0-2)"), 0);
        CHECK.due("below 0 times 0", value("(0-2)*0"), 0);
        // 2 to the 32 times itself is 2 to the 64: 0 in a long.
        String wide = "(256*256*256*256)";
        String below = "(0-256*256*256*256)";
        CHECK.due("wrapped round to 0", value(wide + "*" + wide), ERROR);
        CHECK.due("wrapped round to 0", value(wide + "*" + below), ERROR);
        CHECK.due("wrapped round to 0", value(below + "*" + wide), ERROR);
        CHECK.due("wrapped round to 0", value(below + "*" + below), ERROR);
        for (int a = 25; a <= 39; a++) {
            CHECK.due("2 to the " + a, value(power(a)), 1L << a);
            CHECK.due("2 to the " + a + " below 0", value("(0-" + power(a) + ")*1"), -(1L << a));
            for (int b = 64 - a; b <= 39; b++) {
                CHECK.due("2 to the " + a + " times 2 to the " + b, value(power(a) + "*" + power(b)), ERROR);
                CHECK.due("below 0", value("(0-" + power(a) + ")*" + power(b)), ERROR);
            }
        }
        CHECK.due("both sides top", value("(" + top + ")-(" + top + ")"), 0);
        CHECK.due("both sides top, in sum", value("(" + top + ")+(" + top + ")"), ERROR);
    }

    private static String power(int ofTwo) {
        return "(4096*4096*" + (1 << (ofTwo - 24) / 2) + "*" + (1 << (ofTwo - 23) / 2) + ")";
    }

    private static void dividing() {
        CHECK.sentence("/ is cut towards 0; ERROR: / by 0");
        CHECK.due("7/2", value("7/2"), 3);
        CHECK.due("-7/2", value("(0-7)/2"), -3);
        CHECK.due("7/-2", value("7/(0-2)"), -3);
        CHECK.due("-7/-2", value("(0-7)/(0-2)"), 3);
        CHECK.due("1/2", value("1/2"), 0);
        CHECK.due("-1/2", value("(0-1)/2"), 0);
        CHECK.due("0/1", value("0/1"), 0);
        CHECK.due("1/1", value("1/1"), 1);
        CHECK.due("1/0", value("1/0"), ERROR);
        CHECK.due("0/0", value("0/0"), ERROR);
        CHECK.due("1/(1-1)", value("1/(1-1)"), ERROR);
        CHECK.due("1/not 1", value("1/(not 1)"), ERROR);
        CHECK.sentence("both sides are worked out");
        CHECK.due("1 or 1/0", value("1 or 1/0"), ERROR);
        CHECK.due("0 and 1/0", value("0 and 1/0"), ERROR);
        CHECK.due("1/0 or 1", value("1/0 or 1"), ERROR);
    }

    private static void truth() {
        CHECK.sentence("comparisons, and, or, not are 1 or 0 (what isn't 0 is as 1)");
        CHECK.due("not 0", value("not 0"), 1);
        CHECK.due("not 1", value("not 1"), 0);
        CHECK.due("not 2", value("not 2"), 0);
        CHECK.due("not below 0", value("not (0-1)"), 0);
        CHECK.due("2 and 4", value("2 and 4"), 1);
        CHECK.due("0 and 4", value("0 and 4"), 0);
        CHECK.due("4 and 0", value("4 and 0"), 0);
        CHECK.due("2 or 0", value("2 or 0"), 1);
        CHECK.due("0 or 2", value("0 or 2"), 1);
        CHECK.due("0 or 0", value("0 or 0"), 0);
        CHECK.due("below 0 or 0", value("(0-2) or 0"), 1);
        String[] signs = {"<", "<=", "=", "<>", ">=", ">"};
        int[][] due = {{1, 0, 0}, {1, 1, 0}, {0, 1, 0}, {1, 0, 1}, {0, 1, 1}, {0, 0, 1}};
        for (int i = 0; i < 6; i++) {
            for (int a = 4; a <= 6; a++) {
                CHECK.due(a + signs[i] + "5", value(a + signs[i] + "5"), due[i][a - 4]);
            }
        }
    }

    private static void numbersOfThirtyOneBits() {
        CHECK.sentence("Numbers are .. without what is above 31 bits, by 65536");
        for (int seed : new int[] {0, 1, 77, 99999}) {
            StuckGroove x = Check.told("groove 1 1;scrat 0 50 1 0 1;law back 50;seed " + seed + ";");
            long last = seed;
            for (int i = 0; i < 12; i++) {
                last = (last * 1103515245L + 12345L) & 0x7fffffffL;
                x.go(1);
                CHECK.due("seed " + seed + ", TURN " + i, x.count(5), last / 65536 % 100 < 50 ? 0 : -2);
                if (x.count(5) < 0) {
                    x.anew();
                }
            }
        }
    }

    private static void weights() {
        CHECK.sentence("a WEIGHT 0 .. 9 from now on: true; false: no such one, it has");
        StuckGroove x = Check.told("scrat 0 100 1 0 1;arm 5;");
        for (int wrong : new int[] {-1, 10, 5, Integer.MIN_VALUE, Integer.MAX_VALUE}) {
            CHECK.due("weigh(" + wrong + ")", x.weigh(wrong), false);
            CHECK.due("the weight stays", x.count(10), 5);
            CHECK.due("nothing to undo", x.count(13), 0);
        }
        CHECK.due("weigh(0)", x.weigh(0), true);
        CHECK.due("odds by 0", x.scratch(0, 6), 100);
        CHECK.due("weigh(0) again", x.weigh(0), false);
        CHECK.due("weigh(9)", x.weigh(9), true);
        CHECK.due("odds by 9", x.scratch(0, 6), 55);
        CHECK.due("weigh(9) again", x.weigh(9), false);
        CHECK.due("weigh(5)", x.weigh(5), true);
        CHECK.due("three to undo", x.count(13), 3);
    }

    private static void nudges() {
        CHECK.sentence("NONE: no such FAR, 0, it is OUT");
        StuckGroove x = Check.told(FIVE + "scrat 0 0 1 0 1;law back 100;");
        x.go(1);
        String state = Check.state(x);
        for (int wrong : new int[] {-10, 0, 10, Integer.MIN_VALUE, Integer.MAX_VALUE}) {
            CHECK.due("nudge(" + wrong + ")", x.nudge(wrong), -1);
            CHECK.due("nothing is done", Check.state(x), state);
        }
        CHECK.due("nudge(9)", x.nudge(9), -2);
        state = Check.state(x);
        for (int far : new int[] {-9, -1, 1, 9, 0, 10}) {
            CHECK.due("OUT, nudge(" + far + ")", x.nudge(far), -1);
            CHECK.due("nothing is done", Check.state(x), state);
        }
        CHECK.due("without GROOVES", new StuckGroove().nudge(1), -1);
    }

    private static void nudgesToBothEnds() {
        CHECK.sentence("NUDGED by FAR -9 .. 9 now (GROOVE 0 at least, beyond the last one OUT; ROUNDS are 0)");
        for (int far = -9; far <= 9; far++) {
            StuckGroove x = Check.told(Check.times("groove 1 1;", 12) + "scrat 7 0 1 0 1;law back 100;");
            x.go(8);
            CHECK.due("in GROOVE 6", x.count(5), 6);
            CHECK.due("a ROUND", x.count(9), 1);
            if (far != 0) {
                int due = far < -6 ? 0 : far > 5 ? -2 : 6 + far;
                CHECK.due("nudge(" + far + ")", x.nudge(far), due);
                CHECK.due("behind nudge(" + far + ")", x.count(5), due);
                CHECK.due("ROUNDS behind nudge(" + far + ")", x.count(9), 0);
                CHECK.due("the TURN behind nudge(" + far + ")", x.count(4), 8);
                CHECK.due("to undo", x.count(13), 1);
            }
        }
        StuckGroove x = Check.told("groove 1 1;");
        CHECK.due("to GROOVE 0 from there", x.nudge(-1), 0);
        CHECK.due("that can be undone", x.count(13), 1);
    }

    private static void playsAnew() {
        CHECK.sentence("false: there are no GROOVES, it is in GROOVE 0");
        CHECK.due("no GROOVES", new StuckGroove().anew(), false);
        StuckGroove x = Check.told(FIVE + "scrat 0 0 1 0 1;law back (turn < 2) * 100;");
        x.go(2);
        String state = Check.state(x);
        CHECK.due("in GROOVE 0", x.anew(), false);
        CHECK.due("nothing is done, ROUNDS stay 2", Check.state(x), state);
        CHECK.due("ROUNDS", x.count(9), 2);
        x.go(1);
        CHECK.due("in GROOVE 1", x.anew(), true);
        CHECK.due("in GROOVE 0 then", x.count(5), 0);
        CHECK.due("in GROOVE 0 again", x.anew(), false);
        x.nudge(9);
        CHECK.due("OUT", x.anew(), true);
        CHECK.due("in GROOVE 0 then", x.count(5), 0);
        x = Check.told(FIVE + "scrat 2 0 1 0 1;law back 100;");
        x.go(3);
        CHECK.due("a ROUND", x.count(9), 1);
        x.anew();
        CHECK.due("ROUNDS are 0", x.count(9), 0);
        CHECK.due("the TURN stays", x.count(4), 3);
        CHECK.due("WORN stays", x.scratch(0, 5), 1);
    }

    private static void turnsOfOneCall() {
        CHECK.sentence("So many TURNS (0 .. 99) go by .. NONE, and none does: no such number");
        StuckGroove x = Check.told(STUCK);
        CHECK.due("go(0)", x.go(0), 0);
        CHECK.due("none went by", x.count(6), 0);
        CHECK.due("go(1)", x.go(1), 1);
        CHECK.due("go(99)", x.go(99), 100);
        CHECK.due("100 SECONDS", x.count(6), 100);
        x.weigh(0);
        String state = Check.state(x);
        for (int wrong : new int[] {-1, 100, Integer.MIN_VALUE, Integer.MAX_VALUE}) {
            CHECK.due("go(" + wrong + ")", x.go(wrong), -1);
            CHECK.due("none did", Check.state(x), state);
        }
        CHECK.due("still to undo", x.undo(), 0);
    }

    private static void turnsUpTo9999() {
        CHECK.sentence("NONE, and none does: behind 9999");
        StuckGroove x = Check.told(STUCK);
        for (int i = 0; i < 100; i++) {
            x.go(99);
        }
        CHECK.due("go(98)", x.go(98), 9998);
        CHECK.due("go(2) to 10000", x.go(2), -1);
        CHECK.due("none did", x.count(4), 9998);
        CHECK.due("SECONDS", x.count(6), 9998);
        CHECK.due("go(1) to 9999", x.go(1), 9999);
        CHECK.due("go(1) to 10000", x.go(1), -1);
        CHECK.due("go(99)", x.go(99), -1);
        CHECK.due("go(0)", x.go(0), 9999);
        CHECK.due("SECONDS", x.count(6), 9999);
        CHECK.due("WORN", x.scratch(0, 5), 9999);
        CHECK.due("ROUNDS", x.count(9), 9999);
        CHECK.due("asked beyond it", x.out(200, 1), 200);
    }

    private static void turnsWhileOut() {
        CHECK.sentence("TURNS go by though it is OUT");
        StuckGroove x = Check.told("groove 3 4;scrat 0 0 1 50 9;guest a 1 1 1;");
        x.go(1);
        CHECK.due("OUT", x.count(5), -2);
        CHECK.due("go(98)", x.go(98), 99);
        CHECK.due("nothing else", Check.state(x), "1 1 1 0 99 -2 3 4 0 0 3 0 0 0 1 1 0 ");
        CHECK.due("without GROOVES", new StuckGroove().go(99), 99);
    }

    private static void twentyToUndo() {
        CHECK.sentence("can be undone, the latest first (20 at most)");
        for (int done : new int[] {19, 20, 21, 40}) {
            StuckGroove x = Check.told("arm 0;");
            for (int i = 1; i <= done; i++) {
                x.weigh(i % 10);
            }
            int left = Math.min(done, 20);
            CHECK.due(done + " were done, count(13)", x.count(13), left);
            for (int i = 1; i <= left; i++) {
                CHECK.due(done + " were done, undo()", x.undo(), left - i);
                CHECK.due(done + " were done, WEIGHT", x.count(10), (done - i) % 10);
            }
            CHECK.due("undo(): NONE: none", x.undo(), -1);
            CHECK.due("the WEIGHT stays", x.count(10), (done - left) % 10);
        }
    }

    private static void undoneToWhatWas() {
        CHECK.sentence("WEIGHTS, NUDGES, plays anew by call can be undone");
        StuckGroove x = Check.told(FIVE + "scrat 3 0 1 0 1;law back 100;");
        x.go(4);
        String ahead = Check.state(x);
        x.weigh(4);
        CHECK.due("undo() of a WEIGHT", x.undo(), 0);
        CHECK.due("as ahead of it", Check.state(x), ahead);
        x.nudge(-1);
        CHECK.due("undo() of a NUDGE", x.undo(), 0);
        CHECK.due("as ahead of it", Check.state(x), ahead);
        x.nudge(9);
        CHECK.due("undo() of a NUDGE to OUT", x.undo(), 0);
        CHECK.due("as ahead of it", Check.state(x), ahead);
        x.anew();
        CHECK.due("undo() of a play anew", x.undo(), 0);
        CHECK.due("as ahead of it", Check.state(x), ahead);
        x.nudge(9);
        x.anew();
        CHECK.due("undo() of a play anew from OUT", x.undo(), 1);
        CHECK.due("OUT again", x.count(5), -2);
        CHECK.due("undo()", x.undo(), 0);
        CHECK.due("as ahead of all", Check.state(x), ahead);
    }

    private static void roundsOfTheTwentyToUndo() {
        CHECK.sentence("can be undone, the latest first (20 at most)");
        for (int ahead = 0; ahead <= 30; ahead++) {
            StuckGroove x = Check.told(FIVE + "scrat 3 0 1 0 1;law back 100;");
            x.go(4);
            for (int i = 0; i < 31; i++) {
                if (i == ahead) {
                    x.nudge(1);
                } else {
                    x.weigh(i % 10);
                }
            }
            for (int i = 30; i >= 11; i--) {
                x.undo();
                CHECK.due("a NUDGE was " + ahead + ", ROUNDS ahead of " + i, x.count(9), i <= ahead ? 1 : 0);
                CHECK.due("a NUDGE was " + ahead + ", the GROOVE ahead of " + i, x.count(5), i <= ahead ? 2 : 3);
            }
            CHECK.due("no more", x.undo(), -1);
        }
    }

    private static void nothingToUndoBehindATurn() {
        CHECK.sentence("if no TURN went by since");
        StuckGroove x = Check.told(FIVE);
        x.weigh(9);
        x.go(0);
        CHECK.due("go(0): none went by", x.count(13), 1);
        x.go(100);
        CHECK.due("go(100): none did", x.count(13), 1);
        x.go(1);
        CHECK.due("go(1): one did", x.count(13), 0);
        CHECK.due("undo()", x.undo(), -1);
        CHECK.due("the WEIGHT stays", x.count(10), 9);
        x.nudge(9);
        CHECK.due("what comes behind it", x.count(13), 1);
        x.go(1);
        CHECK.due("a TURN though it is OUT", x.undo(), -1);
        CHECK.due("still OUT", x.count(5), -2);
        CHECK.sentence("undo: NONE: none");
        CHECK.due("of a new one", new StuckGroove().undo(), -1);
    }

    private static void refusedCallsCantBeUndone() {
        CHECK.sentence("what is refused can't be undone");
        StuckGroove x = Check.told(FIVE);
        x.weigh(3);
        x.weigh(10);
        x.nudge(0);
        x.nudge(10);
        x.anew();
        CHECK.due("none was done", x.count(13), 0);
        x.nudge(9);
        x.nudge(1);
        CHECK.due("one was done", x.count(13), 1);
    }

    private static void noImage() {
        CHECK.sentence("back: NONE: there is none");
        StuckGroove x = Check.told(FIVE);
        x.go(2);
        x.weigh(1);
        String state = Check.state(x);
        CHECK.due("back()", x.back(), -1);
        CHECK.due("nothing is done", Check.state(x), state);
        CHECK.due("keep()", x.keep(), 2);
        CHECK.due("back()", x.back(), 2);
        CHECK.due("back() again", x.back(), 2);
        Check.tell(x, FIVE);
        CHECK.due("back() behind a TEXT", x.back(), -1);
        CHECK.due("keep() without GROOVES", new StuckGroove().keep(), 0);
        CHECK.due("back() of a new one", new StuckGroove().back(), -1);
    }

    private static void oneImage() {
        CHECK.sentence("An IMAGE is kept (in place of one ahead): which TURN it is");
        StuckGroove x = Check.told(FIVE + "scrat 2 0 1 0 1;guest a 1 0 3;law back 50 + turn;seed 4;");
        CHECK.due("keep() at first", x.keep(), 0);
        x.go(5);
        x.weigh(8);
        String state = Check.state(x);
        CHECK.due("keep()", x.keep(), 5);
        CHECK.due("all stays", Check.state(x), state);
        x.undo();
        x.go(60);
        int taped = x.tape(1, 1, true);
        CHECK.due("tape", taped, 0);
        CHECK.due("back()", x.back(), 5);
        CHECK.sentence("All (but the TAPE) is as in the IMAGE");
        CHECK.due("the TAPE stays", x.count(11), 1);
        CHECK.due("the WEIGHT of the image", x.count(10), 8);
        CHECK.due("the TURN", x.count(4), 5);
        x.go(20);
        String one = Check.state(x);
        x.back();
        x.go(20);
        CHECK.due("numbers go on as behind the image", Check.state(x), one);
    }

    private static void nothingToUndoBehindAnImage() {
        CHECK.sentence("(nothing to undo then)");
        StuckGroove x = Check.told(FIVE);
        x.weigh(1);
        x.keep();
        CHECK.due("keep() leaves it", x.count(13), 1);
        x.weigh(2);
        x.back();
        CHECK.due("back() doesn't", x.count(13), 0);
        CHECK.due("undo()", x.undo(), -1);
        CHECK.due("the WEIGHT of the image", x.count(10), 1);
    }

    private static void counts() {
        CHECK.sentence("count: NONE for another what");
        StuckGroove x = new StuckGroove();
        for (int wrong : new int[] {-1, 14, Integer.MIN_VALUE, Integer.MAX_VALUE}) {
            CHECK.due("count(" + wrong + ")", x.count(wrong), -1);
        }
        CHECK.due("count(0)", x.count(0), 0);
        CHECK.due("count(13)", x.count(13), 0);
        CHECK.sentence("5 the GROOVE (-2: OUT)");
        x = Check.told(Check.times("groove 1 1;", 12));
        x.go(11);
        CHECK.due("in GROOVE 11", x.count(5), 11);
        x.go(1);
        CHECK.due("OUT", x.count(5), -2);
        CHECK.sentence("12 by how many it is KNOWN");
        x.tape(1, 1, true);
        x.tape(1, 1, true);
        CHECK.due("all", x.count(12), 2);
        x.known(0);
        CHECK.due("by none", x.count(12), 0);
        x.known(2);
        x.tape(1, 1, true);
        CHECK.due("by two of three", x.count(12), 2);
        x.known(-1);
        CHECK.due("all", x.count(12), 3);
    }
}

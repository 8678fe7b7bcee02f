/** Both sides of each bound of what is asked about the needle ('==== 3.', promises 14 to 30, 35 and 36). */
public final class AskBoundsTest {
    private static final Check CHECK = new Check();
    private static final int[] FAR_OFF = {Integer.MIN_VALUE, Integer.MAX_VALUE};
    private static final String FIVE = "groove 1 1;groove 2 2;groove 3 3;groove 4 4;groove 5 5;";
    private static final String ONE = "groove 1 1;scrat 0 100 1 0 1;";
    private static final String STUCK = ONE + "law back 100;";

    public static void main(String[] args) {
        turnsOfOut();
        whatsOfOut();
        outByThen();
        outAlready();
        loopOfTheLast24();
        loopOutByThen();
        turnsOfLikely();
        groovesOfLikely();
        likelyInLeastTerms();
        likelyByEachWay();
        whatsOfLight();
        lightByNone();
        lightFirstOfSeveral();
        farsOfWhen();
        whenByNone();
        whenTwentyAtMost();
        whenIn200Turns();
        whenOutByThen();
        sixtyPlays();
        turnsOfAPlay();
        farsOfMissed();
        missedOfTwelve();
        missedBetween();
        guestsWhoWait();
        restsThatThereAre();
        waitsOf99Seconds();
        waitsOfEach();
        waitsFromNowOn();
        waitsOf200Turns();
        turnsOfNeedle();
        needleFirstOfSeveral();
        mostOfSeveral();
        turnsOfReaches();
        lengthsOfBestBit();
        bestBitFirstOfSeveral();
        numbersOfRule();
        numbersOfBestRule();
        bestRuleFirstOfSeveral();
        numbersOfGets();
        tamesBelow50();
        tamesBy99();
        numbersOfChance();
        tenTimesOfChance();
        numbersOfTried();
        scratchesOfTried();
        eachCallForItself();
        CHECK.close("AskBoundsTest");
    }

    /** One GROOVE whose SCRATCH throws BACK till it is OUT in just so many TURNS as it goes. */
    private static String outIn(int turns) {
        return ONE + "law back (turn < " + (turns - 1) + ") * 100;";
    }

    private static void turnsOfOut() {
        CHECK.sentence("OUT (n 0 .. 200) .. NONE: no such ones");
        StuckGroove x = Check.told(STUCK);
        for (int what = 0; what <= 3; what++) {
            CHECK.due("out(-1, " + what + ")", x.out(-1, what), -1);
            CHECK.due("out(201, " + what + ")", x.out(201, what), -1);
            CHECK.due("out(least, " + what + ")", x.out(FAR_OFF[0], what), -1);
            CHECK.due("out(most, " + what + ")", x.out(FAR_OFF[1], what), -1);
        }
        CHECK.due("out(0, 1)", x.out(0, 1), 0);
        CHECK.due("out(200, 1)", x.out(200, 1), 200);
    }

    private static void whatsOfOut() {
        CHECK.sentence("OUT .. what 0 .. 3 .. NONE: no such ones");
        StuckGroove x = Check.told("groove 3 4;scrat 0 0 1 0 1;law back 100;guest a 1 0 7;");
        int[] due = {-2, 15, 20, 35};
        for (int what = 0; what <= 3; what++) {
            CHECK.due("out(5, " + what + ")", x.out(5, what), due[what]);
        }
        for (int what : new int[] {-1, 4, FAR_OFF[0], FAR_OFF[1]}) {
            CHECK.due("out(5, " + what + ")", x.out(5, what), -1);
        }
    }

    private static void outByThen() {
        CHECK.sentence("in how many TURNS (-2: not by then)");
        for (int turns : new int[] {1, 2, 199, 200}) {
            StuckGroove x = Check.told(outIn(turns));
            CHECK.due("OUT in " + turns + " for one less", x.out(turns - 1, 0), -2);
            CHECK.due("OUT in " + turns + " for as many", x.out(turns, 0), turns);
            CHECK.due("OUT in " + turns + " for 200", x.out(200, 0), turns);
            CHECK.sentence("each of the TURNS till then, or n");
            CHECK.due("SECONDS of one less", x.out(turns - 1, 1), turns - 1);
            CHECK.due("SECONDS till then", x.out(200, 1), turns);
            CHECK.due("HEARD of one less", x.out(turns - 1, 2), turns - 1);
            CHECK.due("HEARD till then", x.out(200, 2), turns);
        }
        CHECK.due("OUT in 201", Check.told(outIn(201)).out(200, 0), -2);
    }

    private static void outAlready() {
        CHECK.sentence("OUT for n TURNS: in how many TURNS it is OUT");
        StuckGroove x = Check.told(STUCK);
        x.nudge(1);
        for (int what = 0; what <= 3; what++) {
            CHECK.due("it is OUT, out(0, " + what + ")", x.out(0, what), 0);
            CHECK.due("it is OUT, out(200, " + what + ")", x.out(200, what), 0);
        }
        CHECK.due("it isn't yet, out(0, 0)", Check.told(FIVE).out(0, 0), -2);
    }

    private static void loopOfTheLast24() {
        CHECK.sentence("LOOP: the GROOVES (bits) played in the last 24 of 200 TURNS");
        // Stuck in GROOVE 0 till a TURN, then in 1 and 2: TURN 176 is the first one of the last 24.
        String through = "groove 1 1;groove 1 1;groove 1 1;scrat 0 0 1 0 1;scrat 1 0 1 0 1;scrat 2 0 1 0 1;"
            + "law back 100 * (place = 2 or turn < ";
        CHECK.due("GROOVE 0 till TURN 176, 2 behind it", Check.told(through + "176);").loop(), 7);
        CHECK.due("GROOVE 0 till TURN 175, 1 then", Check.told(through + "175);").loop(), 6);
        CHECK.due("GROOVE 0 for all", Check.told(through + "200);").loop(), 1);
        CHECK.due("GROOVE 0 till TURN 198, 1 in the last one", Check.told(through + "198);").loop(), 3);
        CHECK.due("GROOVE 0 to the last one", Check.told(through + "199);").loop(), 1);
        StuckGroove x = Check.told(Check.times("groove 1 1;", 12) + "scrat 11 0 1 0 1;law back 100;");
        CHECK.due("GROOVES 10 and 11", x.loop(), 3 << 10);
        x = Check.told(Check.times("groove 1 1;", 12) + "scrat 11 0 9 0 1;law back 100;");
        CHECK.due("GROOVES 2 to 11", x.loop(), 4095 - 3);
        x = Check.told(STUCK + "guest a 1 9 1;");
        CHECK.due("without GUESTS", x.loop(), 1);
    }

    private static void loopOutByThen() {
        CHECK.sentence("LOOP .. (0: it is OUT by then)");
        CHECK.due("OUT in 200", Check.told(outIn(200)).loop(), 0);
        CHECK.due("OUT in 201", Check.told(outIn(201)).loop(), 1);
        CHECK.due("OUT in 177", Check.told(outIn(177)).loop(), 0);
        CHECK.due("OUT in 176", Check.told(outIn(176)).loop(), 0);
        StuckGroove x = Check.told(STUCK);
        x.nudge(1);
        CHECK.due("OUT now", x.loop(), 0);
        CHECK.due("without GROOVES", new StuckGroove().loop(), 0);
    }

    private static void turnsOfLikely() {
        CHECK.sentence("LIKELY behind n TURNS 0 .. 7");
        StuckGroove x = Check.told("groove 1 1;scrat 0 0 1 0 1;law back 50;");
        long below = 1;
        for (int n = 0; n <= 7; n++) {
            CHECK.due("likely(" + n + ", 0, 0)", x.likely(n, 0, 0), 1);
            CHECK.due("likely(" + n + ", 0, 1)", x.likely(n, 0, 1), below);
            CHECK.due("likely(" + n + ", 1, 0)", x.likely(n, 1, 0), n == 0 ? 0 : below - 1);
            CHECK.due("likely(" + n + ", 1, 1)", x.likely(n, 1, 1), n == 0 ? 1 : below);
            below *= 2;
        }
        CHECK.sentence("likely: NONE: no such ones");
        for (int n : new int[] {-1, 8, FAR_OFF[0], FAR_OFF[1]}) {
            CHECK.due("likely(" + n + ", 0, 0)", x.likely(n, 0, 0), -1);
        }
        for (int what : new int[] {-1, 2, FAR_OFF[0], FAR_OFF[1]}) {
            CHECK.due("likely(1, 0, " + what + ")", x.likely(1, 0, what), -1);
        }
    }

    private static void groovesOfLikely() {
        CHECK.sentence("(GROOVE, or how many there are for OUT)");
        for (int grooves = 0; grooves <= 12; grooves++) {
            StuckGroove x = Check.told(Check.times("groove 1 1;", grooves));
            CHECK.due("OUT of " + grooves, x.likely(0, grooves, 0), grooves == 0 ? 1 : 0);
            CHECK.due("behind 7 TURNS OUT of " + grooves, x.likely(7, grooves, 0), grooves <= 7 ? 1 : 0);
            CHECK.due("one more than OUT of " + grooves, x.likely(0, grooves + 1, 0), -1);
            CHECK.due("one less than GROOVE 0", x.likely(0, -1, 0), -1);
            if (grooves > 0) {
                CHECK.due("GROOVE 0 of " + grooves, x.likely(0, 0, 0), 1);
                CHECK.due("the last one of " + grooves + " behind 7", x.likely(7, grooves - 1, 0), grooves == 8 ? 1 : 0);
            }
        }
        StuckGroove x = Check.told(STUCK);
        CHECK.due("likely(1, least, 0)", x.likely(1, FAR_OFF[0], 0), -1);
        CHECK.due("likely(1, most, 0)", x.likely(1, FAR_OFF[1], 0), -1);
        x.nudge(1);
        CHECK.due("OUT now, behind 7", x.likely(7, 1, 0), 1);
        CHECK.due("OUT now, in GROOVE 0", x.likely(7, 0, 0), 0);
        CHECK.due("OUT now, in GROOVE 0, below", x.likely(7, 0, 1), 1);
    }

    private static void likelyInLeastTerms() {
        CHECK.sentence("LIKELY in least terms, exactly");
        int[][] due = {{0, 0, 1}, {1, 1, 100}, {2, 1, 50}, {4, 1, 25}, {33, 33, 100}, {50, 1, 2}, {75, 3, 4}, {99, 99, 100}, {100, 1, 1}};
        for (int[] row : due) {
            StuckGroove x = Check.told("groove 1 1;scrat 0 0 1 0 1;law back " + row[0] + ";");
            CHECK.due("odds of " + row[0] + ", above", x.likely(1, 0, 0), row[1]);
            CHECK.due("odds of " + row[0] + ", below", x.likely(1, 0, 1), row[2]);
        }
        StuckGroove x = Check.told("groove 1 1;scrat 0 0 1 0 1;law back 99;");
        CHECK.due("99 to the 7", x.likely(7, 0, 0), 93206534790699L);
        CHECK.due("100 to the 7", x.likely(7, 0, 1), 100000000000000L);
        CHECK.due("100 to the 7 less 99 to the 7", x.likely(7, 1, 0), 6793465209301L);
        CHECK.due("by all ways without GUESTS", Check.told(STUCK + "guest a 1 9 1;").likely(7, 0, 0), 1);
    }

    /** A SCRATCH that one way wore is as it was on another one. */
    private static void likelyByEachWay() {
        CHECK.sentence("LIKELY .. by all ways of SCRATCHES, exactly");
        // BACK to 0 (50), then 0 to 1 (not WORN there); ON to 3 (50): SCRATCH 1 is new on it.
        StuckGroove x = Check.told("groove 1 1;groove 1 1;groove 1 1;groove 1 1;scrat 0 0 1 100 2;scrat 2 0 2 50 1;scrat 3 0 3 0 1;"
            + "law back (place = 2) * 50 + (place = 3) * 50 + (place = 0) * 25 - worn * 10;");
        long[][] due = {{1, 4}, {0, 1}, {3, 4}, {0, 1}, {0, 1}};
        for (int g = 0; g <= 4; g++) {
            CHECK.due("behind 1, above " + g, x.likely(1, g, 0), due[g][0]);
            CHECK.due("behind 1, below " + g, x.likely(1, g, 1), due[g][1]);
        }
        // 0 again by 0.25 * 0.15 and, from 2, by 0.75 * 0.5; on 3 by 0.75 * 0.5; on 2 by 0.25 * 0.85.
        long[][] two = {{33, 80}, {0, 1}, {17, 80}, {3, 8}, {0, 1}};
        for (int g = 0; g <= 4; g++) {
            CHECK.due("behind 2, above " + g, x.likely(2, g, 0), two[g][0]);
            CHECK.due("behind 2, below " + g, x.likely(2, g, 1), two[g][1]);
        }
        // 0: 0.25 * 0.15 * 0.05 + 0.375 * 0.15 + 0.2125 * 0.5 + 0.375 * 0.5.
        CHECK.due("behind 3, above 0", x.likely(3, 0, 0), 563);
        CHECK.due("behind 3, below 0", x.likely(3, 0, 1), 1600);
    }

    private static void whatsOfLight() {
        CHECK.sentence("light: NONE for another what");
        StuckGroove x = Check.told(FIVE);
        CHECK.due("light(0)", x.light(0), 0);
        CHECK.due("light(1)", x.light(1), 15);
        for (int what : new int[] {-1, 2, FAR_OFF[0], FAR_OFF[1]}) {
            CHECK.due("light(" + what + ")", x.light(what), -1);
        }
    }

    private static void lightByNone() {
        CHECK.sentence("LIGHT .. in 200 TURNS at most .. -2: by none");
        CHECK.due("OUT in 200, WEIGHT", Check.told(outIn(200)).light(0), 0);
        CHECK.due("OUT in 200, SECONDS", Check.told(outIn(200)).light(1), 200);
        CHECK.due("OUT in 201, WEIGHT", Check.told(outIn(201)).light(0), -2);
        CHECK.due("OUT in 201, SECONDS", Check.told(outIn(201)).light(1), -2);
        CHECK.due("without GUESTS", Check.told(STUCK + "guest a 1 9 1;").light(0), -2);
        for (int weight = 0; weight <= 9; weight++) {
            StuckGroove x = Check.told(ONE + "law back (heavy <> " + weight + ") * 100;");
            CHECK.due("by " + weight + " alone", x.light(0), weight);
            CHECK.due("by " + weight + " alone, SECONDS", x.light(1), 1);
        }
        CHECK.due("by 10 alone", Check.told(ONE + "law back (heavy <> 10) * 100;").light(0), -2);
        StuckGroove x = Check.told(STUCK);
        x.nudge(1);
        CHECK.due("OUT now, WEIGHT", x.light(0), 0);
        CHECK.due("OUT now, SECONDS", x.light(1), 0);
        CHECK.due("the WEIGHT stays", x.count(10), 3);
    }

    private static void lightFirstOfSeveral() {
        CHECK.sentence("LIGHT .. the first of several");
        StuckGroove x = Check.told(ONE + "law back (heavy <> 4 and heavy <> 7) * 100;");
        CHECK.due("4 and 7 alike", x.light(0), 4);
        x = Check.told(ONE + "law back (turn < 12 - heavy) * 100;");
        CHECK.due("the last one is best", x.light(0), 9);
        CHECK.due("the last one is best, SECONDS", x.light(1), 4);
        x = Check.told(ONE + "law back (turn < 2 + heavy) * 100;");
        CHECK.due("the first one is best", x.light(0), 0);
        CHECK.due("the first one is best, SECONDS", x.light(1), 3);
    }

    private static void farsOfWhen() {
        CHECK.sentence("WHEN (FAR 1 .. 9) .. NONE: no such ones");
        StuckGroove x = Check.told(FIVE);
        for (int what = 0; what <= 1; what++) {
            for (int far : new int[] {-1, 0, 10, FAR_OFF[0], FAR_OFF[1]}) {
                CHECK.due("when(" + far + ", " + what + ")", x.when(far, what), -1);
            }
        }
        for (int what : new int[] {-1, 2, FAR_OFF[0], FAR_OFF[1]}) {
            CHECK.due("when(1, " + what + ")", x.when(1, what), -1);
        }
        // By 1 the last GROOVE is left out best, by 9 all of them.
        CHECK.due("when(1, 0)", x.when(1, 0), 4);
        CHECK.due("when(1, 1)", x.when(1, 1), 10);
        CHECK.due("when(9, 0)", x.when(9, 0), 0);
        CHECK.due("when(9, 1)", x.when(9, 1), 0);
    }

    private static void whenByNone() {
        CHECK.sentence("WHEN .. -2: by none");
        StuckGroove x = Check.told("groove 1 1;groove 1 1;scrat 0 0 1 0 1;scrat 1 0 1 0 1;law back 100;guest a 1 9 1;");
        CHECK.due("by 1", x.when(1, 0), -2);
        CHECK.due("by 1, SECONDS", x.when(1, 1), -2);
        CHECK.due("by 2", x.when(2, 0), 0);
        CHECK.due("by 2, SECONDS", x.when(2, 1), 0);
    }

    /** From GROOVE 0 it gets to 1 in one TURN alone, and OUT from 1 by the NUDGE alone. */
    private static void whenTwentyAtMost() {
        CHECK.sentence("WHEN .. ahead of which TURN from now on (0: this one), 20 at most");
        for (int late = 0; late <= 21; late++) {
            StuckGroove x = Check.told("groove 1 1;groove 1 1;groove 1 1;scrat 0 0 1 0 1;scrat 1 0 2 0 1;scrat 2 0 9 0 1;"
                + "law back (place > 0 or turn + 1 <> " + late + ") * 100;");
            // A NUDGE by 2 is beyond GROOVE 2 from 1 alone; back in 0 behind one TURN there, it is too late.
            CHECK.due("in GROOVE 1 ahead of TURN " + late + " alone", x.when(2, 0), late >= 1 && late <= 20 ? late : -2);
            CHECK.due("its SECONDS", x.when(2, 1), late >= 1 && late <= 20 ? late : -2);
        }
    }

    private static void whenIn200Turns() {
        CHECK.sentence("WHEN .. in 200 TURNS from now at most, the first of several");
        // Whenever it is nudged to GROOVE 1, it is thrown BACK; the first TURN that lets it through leaves two to go.
        String told = "groove 1 1;groove 1 1;scrat 0 0 1 0 1;scrat 1 0 1 0 1;law back (turn < ";
        StuckGroove x = Check.told(told + "198) * 100;");
        CHECK.due("OUT in 200", x.when(1, 0), 0);
        CHECK.due("OUT in 200, SECONDS", x.when(1, 1), 200);
        x = Check.told(told + "199) * 100;");
        CHECK.due("OUT in 201", x.when(1, 0), -2);
        CHECK.due("OUT in 201, SECONDS", x.when(1, 1), -2);
        x.go(1);
        CHECK.due("OUT in 200 from now", x.when(1, 1), 200);
        // The second TURN from now lets it through to GROOVE 1: the NUDGE there leaves out 9 SECONDS.
        x = Check.told("groove 1 1;groove 9 1;scrat 0 0 1 0 1;scrat 1 0 9 0 1;law back (turn < 3) * 100;");
        x.go(2);
        CHECK.due("from now on", x.when(1, 0), 2);
        CHECK.due("from now on, SECONDS", x.when(1, 1), 2);
        CHECK.due("the first of several", Check.told("groove 1 1;groove 5 1;groove 5 1;groove 4 1;").when(1, 0), 1);
    }

    private static void whenOutByThen() {
        CHECK.sentence("WHEN .. (nothing is done, if it is OUT by then)");
        StuckGroove x = Check.told("groove 1 1;groove 9 1;scrat 0 0 1 0 1;scrat 1 0 9 0 1;law back 100;");
        x.nudge(9);
        CHECK.due("OUT now", x.when(1, 0), 0);
        CHECK.due("OUT now, SECONDS", x.when(1, 1), 0);
        // A NUDGE ahead of TURN 0 leads to a GROOVE that throws BACK; OUT in one TURN it isn't done any more.
        x = Check.told("groove 1 1;groove 1 1;scrat 0 0 1 100 2;scrat 1 0 1 0 1;law back place * 100;");
        CHECK.due("by 1", x.when(1, 0), 1);
        CHECK.due("by 1, SECONDS", x.when(1, 1), 1);
    }

    private static void sixtyPlays() {
        CHECK.sentence("PLAYS .. 60 at most .. -2: not by 60");
        // Each play is thrown BACK once and wears twice, till it is WORN so often.
        for (int plays : new int[] {1, 2, 59, 60}) {
            StuckGroove x = Check.told(ONE + "law back (worn / 2 * 2 = worn and worn < " + (plays * 2 - 2) + ") * 100;");
            CHECK.due(plays + " plays", x.plays(), plays);
        }
        StuckGroove x = Check.told(ONE + "law back (worn / 2 * 2 = worn and worn < 120) * 100;");
        CHECK.due("61 plays", x.plays(), -2);
        CHECK.due("never", Check.told(STUCK).plays(), -2);
        CHECK.due("without GROOVES", new StuckGroove().plays(), 1);
    }

    private static void turnsOfAPlay() {
        CHECK.sentence("PLAYS .. in 200 TURNS each (SCRATCHES as WORN by then)");
        // WORN by each of its TURNS: the 200th passing of the first play lets it through, or the first one of the second.
        CHECK.due("199 throws", Check.told(ONE + "law back (worn < 199) * 100;").plays(), 2);
        CHECK.due("200 throws", Check.told(ONE + "law back (worn < 200) * 100;").plays(), 2);
        CHECK.due("201 throws", Check.told(ONE + "law back (worn < 201) * 100;").plays(), 3);
        CHECK.due("400 throws", Check.told(ONE + "law back (worn < 400) * 100;").plays(), 3);
        CHECK.due("401 throws", Check.told(ONE + "law back (worn < 401) * 100;").plays(), 4);
        StuckGroove x = Check.told(ONE + "law back (worn < 3) * 100;");
        CHECK.due("WORN from 0", x.plays(), 2);
        x.go(3);
        CHECK.due("WORN from now", x.plays(), 1);
        x.nudge(9);
        CHECK.due("from GROOVE 0 on though it is OUT", x.plays(), 1);
        CHECK.due("without GUESTS", Check.told(STUCK + "guest a 1 9 1;").plays(), -2);
    }

    private static void farsOfMissed() {
        CHECK.sentence("MISSED (FAR 1 .. 9); NONE: no such FAR, it is OUT");
        StuckGroove x = Check.told(FIVE);
        CHECK.due("missed(1)", x.missed(1), 0);
        CHECK.due("missed(9)", x.missed(9), 14);
        for (int far : new int[] {-1, 0, 10, FAR_OFF[0], FAR_OFF[1]}) {
            CHECK.due("missed(" + far + ")", x.missed(far), -1);
        }
        x.nudge(9);
        CHECK.due("OUT, missed(1)", x.missed(1), -1);
        CHECK.due("OUT, missed(9)", x.missed(9), -1);
        CHECK.due("without GROOVES", new StuckGroove().missed(1), -1);
    }

    private static void missedOfTwelve() {
        CHECK.sentence("MISSED .. the one it comes to (beyond the last one OUT)");
        StuckGroove x = Check.told(Check.times("groove 1 9;", 12));
        x.nudge(9);
        int[] due = {0, 9, 18, 18, 18, 18, 18, 18, 18};
        for (int far = 1; far <= 9; far++) {
            CHECK.due("from 9 by " + far, x.missed(far), due[far - 1]);
        }
        x.nudge(2);
        CHECK.due("from 11 by 9", x.missed(9), 0);
        for (int time = 0; time < 2; time++) {
            Check.tell(x, "groove 1 9;groove 1 9;");
            CHECK.due("of two GROOVES told anew", x.missed(9), 9);
        }
    }

    private static void missedBetween() {
        CHECK.sentence("the WORTH told of GROOVES between the one it is in and the one it comes to, both not counted");
        int[][] due = {{0, 2, 5, 9, 14, 14}, {0, 3, 7, 12, 12, 12}, {0, 4, 9, 9, 9, 9}, {0, 5, 5, 5, 5, 5}, {0, 0, 0, 0, 0, 0}};
        StuckGroove x = Check.told(FIVE);
        for (int place = 0; place < 5; place++) {
            for (int far = 1; far <= 6; far++) {
                CHECK.due("from " + place + " by " + far, x.missed(far), due[place][far - 1]);
            }
            x.nudge(1);
        }
    }

    private static void guestsWhoWait() {
        CHECK.sentence("rests: NONE: no such GUESTS, alike, it is OUT");
        StuckGroove x = Check.told(STUCK + "guest a 1 1 5;guest b 1 1 5;guest c 1 1 5;guest d 1 1 5;");
        int[][] wrong = {{-1, 0}, {0, -1}, {4, 0}, {0, 4}, {0, 0}, {3, 3}, {FAR_OFF[0], 0}, {0, FAR_OFF[1]}};
        for (int[] pair : wrong) {
            CHECK.due("rests(" + pair[0] + ", " + pair[1] + ")", x.rests(pair[0], pair[1]), -1);
            CHECK.due("rest(" + pair[0] + ", " + pair[1] + ", 0)", x.rest(pair[0], pair[1], 0), -1);
            CHECK.due("rest(" + pair[0] + ", " + pair[1] + ", 9)", x.rest(pair[0], pair[1], 9), -1);
        }
        CHECK.due("rests(0, 3)", x.rests(0, 3), 2);
        CHECK.due("rests(3, 0)", x.rests(3, 0), 2);
        x.nudge(1);
        CHECK.due("OUT, rests(0, 3)", x.rests(0, 3), -1);
        CHECK.due("OUT, rest(0, 3, 0)", x.rest(0, 3, 0), -1);
        CHECK.due("without GUESTS", Check.told(STUCK).rests(0, 1), -1);
    }

    private static void restsThatThereAre() {
        CHECK.sentence("rest: -2: there are no so many; NONE likewise, k is below 0");
        StuckGroove x = Check.told(STUCK + "guest a 1 1 5;guest b 1 1 5;");
        CHECK.due("the first one", x.rest(0, 1, 0), 1);
        CHECK.due("the second one", x.rest(0, 1, 1), 10);
        CHECK.due("no third one", x.rest(0, 1, 2), -2);
        CHECK.due("k most", x.rest(0, 1, FAR_OFF[1]), -2);
        CHECK.due("k -1", x.rest(0, 1, -1), -1);
        CHECK.due("k least", x.rest(0, 1, FAR_OFF[0]), -1);
        x = Check.told(STUCK + "guest a 1 0 0;guest b 1 0 0;");
        CHECK.due("all four", x.rests(0, 1), 4);
        int[] due = {0, 1, 10, 11, -2};
        for (int k = 0; k < 5; k++) {
            CHECK.due("the " + k + "-th", x.rest(0, 1, k), due[k]);
        }
        // a would get up for nothing while b would not, whatever the other one does: there may be one alone.
        x = Check.told(STUCK + "guest a 1 1 0;guest b 1 1 99;");
        CHECK.due("a gets up for nothing", x.rests(0, 1), 2);
        CHECK.due("b alone", x.rest(0, 1, 0), 1);
        CHECK.due("a alone", x.rest(0, 1, 1), 10);
    }

    /** Two GUESTS whose NUDGE is OUT at once: each would get up for less than what it waits. */
    private static int restsBy(String told, int cost) {
        return Check.told(told + "guest a 1 9 " + cost + ";guest b 1 9 " + cost + ";").rests(0, 1);
    }

    private static void waitsOf99Seconds() {
        CHECK.sentence("WAIT .. SECONDS until it is OUT (99 at most)");
        // SECONDS of 98, 99 and 100: behind so many TURNS it goes through.
        for (int seconds = 97; seconds <= 102; seconds++) {
            String told = outIn(seconds);
            int due = Math.min(seconds, 99);
            // Neither gets up, if that costs more than waiting; as much is as good.
            CHECK.due("waiting " + seconds + ", COST of one less", restsBy(told, due - 1), 2);
            CHECK.due("waiting " + seconds + ", COST as much", restsBy(told, due), 3);
            if (due < 99) {
                CHECK.due("waiting " + seconds + ", COST of one more", restsBy(told, due + 1), 1);
            }
        }
        // Behind a NUDGE likewise: from GROOVE 1 it waits 99 at most, from GROOVE 0 as many.
        StuckGroove x = Check.told("groove 1 1;groove 1 1;scrat 0 0 1 0 1;scrat 1 0 1 0 1;law back (turn < 150) * 100;guest a 1 1 0;guest b 1 1 0;");
        CHECK.due("all lose 99", x.rests(0, 1), 4);
    }

    private static void waitsOfEach() {
        CHECK.sentence("A REST: neither would lose less otherwise");
        // COSTS of a and b, how many RESTS, the first one: each would get up for less than the 50 that it waits.
        int[][] due = {{99, 49, 1, 1}, {99, 50, 2, 0}, {99, 51, 1, 0}, {49, 99, 1, 10}, {50, 99, 2, 0}, {51, 99, 1, 0}, {49, 49, 2, 1}};
        for (int[] row : due) {
            StuckGroove x = Check.told(outIn(50) + "guest a 1 9 " + row[0] + ";guest b 1 9 " + row[1] + ";");
            CHECK.due("COSTS of " + row[0] + " and " + row[1], x.rests(0, 1), row[2]);
            CHECK.due("COSTS of " + row[0] + " and " + row[1] + ", the first one", x.rest(0, 1, 0), row[3]);
        }
    }

    private static void waitsFromNowOn() {
        CHECK.sentence("WAIT .. now: .. SECONDS until it is OUT");
        StuckGroove x = Check.told(Check.times("groove 9 1;", 12) + "guest a 1 9 99;guest b 1 9 18;");
        x.go(7);
        int[][] due = {{1, 1}, {1, 1}, {1, 1}, {2, 0}, {1, 0}};
        for (int turn = 0; turn < 5; turn++) {
            CHECK.due((45 - 9 * turn) + " SECONDS are left", x.rests(0, 1), due[turn][0]);
            CHECK.due((45 - 9 * turn) + " SECONDS are left, the first one", x.rest(0, 1, 0), due[turn][1]);
            x.go(1);
        }
    }

    private static void waitsOf200Turns() {
        CHECK.sentence("WAIT .. (99 at most, and if it isn't in 200 TURNS)");
        CHECK.due("never, COST 98", restsBy(STUCK, 98), 2);
        CHECK.due("never, COST 99", restsBy(STUCK, 99), 3);
        StuckGroove x = Check.told("groove 1 1;groove 1 1;scrat 0 0 1 0 1;law back 100;guest a 1 1 97;guest b 1 0 0;");
        // a's NUDGE leaves 1 SECOND, b's (by 0) 99 as ahead of it.
        CHECK.due("a alone, or with b", x.rests(0, 1), 2);
        CHECK.due("a alone", x.rest(0, 1, 0), 10);
        CHECK.due("a with b, for nothing", x.rest(0, 1, 1), 11);
    }

    private static void turnsOfNeedle() {
        CHECK.sentence("NEEDLE (n 1 .. 99); NONE: no such n");
        StuckGroove x = Check.told("price 99 0;");
        CHECK.due("needle(1)", x.needle(1), 1);
        CHECK.due("needle(2)", x.needle(2), 2);
        CHECK.due("needle(99)", x.needle(99), 99);
        for (int n : new int[] {-1, 0, 100, FAR_OFF[0], FAR_OFF[1]}) {
            CHECK.due("needle(" + n + ")", x.needle(n), -1);
        }
    }

    private static void needleFirstOfSeveral() {
        CHECK.sentence("NEEDLE .. is least, the first of several");
        // By 1: p; by 2: (p + w) / 2; by 3: (p + 3 w) / 3; by 4: (p + 6 w) / 4.
        CHECK.due("1 and 1: 1, 1", Check.told("price 1 1;").needle(9), 1);
        CHECK.due("2 and 1: 2, 3 / 2, 5 / 3", Check.told("price 2 1;").needle(9), 2);
        CHECK.due("3 and 1: 3, 2, 2", Check.told("price 3 1;").needle(9), 2);
        CHECK.due("4 and 1: 4, 5 / 2, 7 / 3, 10 / 4", Check.told("price 4 1;").needle(9), 3);
        CHECK.due("6 and 1: 6, 7 / 2, 3, 3", Check.told("price 6 1;").needle(9), 3);
        CHECK.due("7 and 1, but 3 at most", Check.told("price 7 1;").needle(3), 3);
        CHECK.due("7 and 1", Check.told("price 7 1;").needle(4), 4);
        CHECK.due("9 and 9: 9, 9", Check.told("price 9 9;").needle(99), 1);
        CHECK.due("10 and 9: 10, 19 / 2", Check.told("price 10 9;").needle(99), 2);
        CHECK.due("0 and 0", Check.told("price 0 0;").needle(99), 1);
        CHECK.due("91 and 1: 13 and 14 alike", Check.told("price 91 1;").needle(99), 13);
    }

    private static void mostOfSeveral() {
        CHECK.sentence("The GROOVE played most often, the first of several; NONE: there are none");
        CHECK.due("none", new StuckGroove().most(), -1);
        StuckGroove x = Check.told(FIVE);
        CHECK.due("all alike", x.most(), 0);
        x.go(5);
        CHECK.due("all alike again", x.most(), 0);
        x.anew();
        x.nudge(4);
        x.go(1);
        CHECK.due("the last one", x.most(), 4);
        x.anew();
        x.nudge(1);
        x.go(1);
        CHECK.due("1 and 4 alike", x.most(), 1);
    }

    private static void turnsOfReaches() {
        CHECK.sentence("reaches: n 1 .. 99 at most .. (1: the next one); -2: not by then; NONE: no such ones");
        StuckGroove x = Check.told("groove 1 1;groove 1 1;scrat 0 0 1 0 1;law back (turn < 97) * 100;");
        CHECK.due("the next one", x.reaches(0, 1), 1);
        CHECK.due("in 99, for 98", x.reaches(1, 98), -2);
        CHECK.due("in 99, for 99", x.reaches(1, 99), 99);
        for (int n : new int[] {-1, 0, 100, FAR_OFF[0], FAR_OFF[1]}) {
            CHECK.due("reaches(0, " + n + ")", x.reaches(0, n), -1);
        }
        for (int g : new int[] {-1, 2, FAR_OFF[0], FAR_OFF[1]}) {
            CHECK.due("reaches(" + g + ", 9)", x.reaches(g, 9), -1);
        }
        x = Check.told("groove 1 1;groove 1 1;scrat 0 0 1 0 1;law back (turn < 98) * 100;");
        CHECK.due("in 100", x.reaches(1, 99), -2);
        x.nudge(9);
        CHECK.due("OUT", x.reaches(0, 99), -2);
        CHECK.due("with GUESTS", Check.told("groove 1 1;groove 1 1;scrat 0 0 1 0 1;law back 100;guest a 2 1 1;").reaches(1, 99), 3);
    }

    private static void lengthsOfBestBit() {
        CHECK.sentence("BEST BIT (k 1 .. 12): -2: there are no so many; NONE: no such k");
        for (int grooves = 0; grooves <= 12; grooves++) {
            StuckGroove x = Check.told(Check.times("groove 1 1;", grooves));
            for (int k = 1; k <= 12; k++) {
                CHECK.due("bestBit(" + k + ") of " + grooves, x.bestBit(k), k <= grooves ? 0 : -2);
            }
            for (int k : new int[] {-1, 0, 13, FAR_OFF[0], FAR_OFF[1]}) {
                CHECK.due("bestBit(" + k + ") of " + grooves, x.bestBit(k), -1);
            }
        }
    }

    private static void bestBitFirstOfSeveral() {
        CHECK.sentence("BEST BIT .. the most WORTH told in sum, the first of several");
        StuckGroove x = Check.told("groove 1 0;groove 1 3;groove 1 2;groove 1 3;groove 1 4;");
        int[] due = {4, 3, 2, 1, 0};
        for (int k = 1; k <= 5; k++) {
            CHECK.due("at the end, bestBit(" + k + ")", x.bestBit(k), due[k - 1]);
        }
        x = Check.told("groove 1 1;groove 1 5;groove 1 2;groove 1 5;groove 1 1;");
        int[] first = {1, 1, 1, 0, 0};
        for (int k = 1; k <= 5; k++) {
            CHECK.due("alike, bestBit(" + k + ")", x.bestBit(k), first[k - 1]);
        }
        CHECK.due("worth nothing", Check.told("groove 1 0;groove 1 0;").bestBit(1), 0);
    }

    private static void numbersOfRule() {
        CHECK.sentence("RULE (ROUNDS 1 .. 9, FAR 1 .. 9, n 0 .. 200 TURNS): NONE: no such ones");
        StuckGroove x = Check.told("groove 1 1;groove 1 5;scrat 0 0 1 0 1;law back 100;guest a 1 9 1;");
        for (int wrong : new int[] {-1, 0, 10, FAR_OFF[0], FAR_OFF[1]}) {
            CHECK.due("rule(" + wrong + ", 1, 1)", x.rule(wrong, 1, 1), -1);
            CHECK.due("rule(1, " + wrong + ", 1)", x.rule(1, wrong, 1), -1);
        }
        for (int n : new int[] {-1, 201, FAR_OFF[0], FAR_OFF[1]}) {
            CHECK.due("rule(1, 1, " + n + ")", x.rule(1, 1, n), -1);
        }
        for (int rounds = 1; rounds <= 9; rounds++) {
            CHECK.due("rule(" + rounds + ", 1, 0)", x.rule(rounds, 1, 0), 0);
            CHECK.due("rule(" + rounds + ", 1, as many)", x.rule(rounds, 1, rounds), rounds);
            CHECK.due("rule(" + rounds + ", 1, one more)", x.rule(rounds, 1, rounds + 1), rounds + 5);
            CHECK.due("rule(" + rounds + ", 1, 200)", x.rule(rounds, 1, 200), rounds + 5);
            CHECK.due("rule(" + rounds + ", 9, 200)", x.rule(rounds, 9, 200), rounds);
        }
        x = Check.told("groove 1 1;groove 1 1;scrat 0 0 1 0 1;scrat 1 0 1 0 1;law back 100;");
        CHECK.due("rule(9, 1, 200)", x.rule(9, 1, 200), 200);
    }

    private static void numbersOfBestRule() {
        CHECK.sentence("BEST RULE (n 0 .. 60), what 0 .. 2: NONE: no such ones");
        StuckGroove x = Check.told(STUCK);
        for (int what = 0; what <= 2; what++) {
            for (int n : new int[] {-1, 61, FAR_OFF[0], FAR_OFF[1]}) {
                CHECK.due("bestRule(" + n + ", " + what + ")", x.bestRule(n, what), -1);
            }
        }
        for (int what : new int[] {-1, 3, FAR_OFF[0], FAR_OFF[1]}) {
            CHECK.due("bestRule(9, " + what + ")", x.bestRule(9, what), -1);
        }
        x = Check.told("groove 1 1;groove 1 1;scrat 0 0 1 0 1;scrat 1 0 1 0 1;law back 100;");
        CHECK.due("bestRule(0, 2)", x.bestRule(0, 2), 0);
        CHECK.due("bestRule(1, 2)", x.bestRule(1, 2), 1);
        CHECK.due("bestRule(60, 2)", x.bestRule(60, 2), 60);
    }

    private static void bestRuleFirstOfSeveral() {
        CHECK.sentence("BEST RULE: the ROUNDS, then the FAR by which that is most, the first of several");
        StuckGroove x = Check.told(STUCK);
        int[] due = {1, 1, 2, 3, 4, 5, 6, 7, 8, 9, 9};
        for (int n = 0; n <= 10; n++) {
            CHECK.due("bestRule(" + n + ", 0)", x.bestRule(n, 0), due[n]);
            CHECK.due("bestRule(" + n + ", 1)", x.bestRule(n, 1), 1);
            CHECK.due("bestRule(" + n + ", 2)", x.bestRule(n, 2), Math.min(n, 9));
        }
        // GROOVE k alone is worth something: FAR k from GROOVE 0.
        for (int far = 1; far <= 9; far++) {
            x = Check.told(Check.times("groove 1 0;", far) + "groove 1 9;scrat 0 0 1 0 1;" + (far > 1 ? "scrat " + (far - 1) + " 0 9 0 1;" : "")
                + "law back 100;");
            CHECK.due("ROUNDS by FAR " + far, x.bestRule(60, 0), 1);
            CHECK.due("FAR by FAR " + far, x.bestRule(60, 1), far);
            CHECK.due("HEARD by FAR " + far, x.bestRule(60, 2), 9);
        }
        x = Check.told(Check.times("groove 1 0;", 10) + "groove 1 9;scrat 0 0 1 0 1;scrat 9 0 9 0 1;law back 100;");
        CHECK.due("by FAR 10 alone", x.bestRule(60, 2), 0);
        CHECK.due("without GROOVES, ROUNDS", new StuckGroove().bestRule(60, 0), 1);
        CHECK.due("without GROOVES, FAR", new StuckGroove().bestRule(60, 1), 1);
    }

    private static void numbersOfGets() {
        CHECK.sentence("gets: in n TURNS (0 .. 200); NONE: no such ones");
        StuckGroove x = Check.told(STUCK + "guest a 9 0 1;guest b 3 0 1;guest c 9 0 1;guest d 5 0 1;");
        int[][] due = {{0, 0}, {2, 0}, {3, 1}, {5, 1}, {6, 2}, {199, 66}, {200, 66}};
        for (int[] row : due) {
            CHECK.due("gets(1, " + row[0] + ")", x.gets(1, row[0]), row[1]);
            CHECK.due("gets(3, " + row[0] + ")", x.gets(3, row[0]), 0);
        }
        for (int n : new int[] {-1, 201, FAR_OFF[0], FAR_OFF[1]}) {
            CHECK.due("gets(0, " + n + ")", x.gets(0, n), -1);
        }
        for (int g : new int[] {-1, 4, FAR_OFF[0], FAR_OFF[1]}) {
            CHECK.due("gets(" + g + ", 9)", x.gets(g, 9), -1);
        }
        CHECK.due("without GUESTS", Check.told(STUCK).gets(0, 9), -1);
    }

    private static void tamesBelow50() {
        CHECK.sentence("tames: 0: its odds of BACK are below 50 now");
        int[][] due = {{0, 0}, {48, 0}, {49, 0}, {50, 1}, {54, 1}, {55, 2}, {100, 11}};
        for (int[] row : due) {
            StuckGroove x = Check.told("scrat 0 " + row[0] + " 1 0 1;arm 0;");
            CHECK.due("odds of " + row[0], x.tames(0), row[1]);
        }
        StuckGroove x = Check.told("scrat 0 50 1 0 1;arm 0;");
        x.weigh(1);
        CHECK.due("by the WEIGHT now", x.tames(0), 0);
        CHECK.sentence("tames: NONE: no such SCRATCH");
        for (int s : new int[] {-1, 1, FAR_OFF[0], FAR_OFF[1]}) {
            CHECK.due("tames(" + s + ")", x.tames(s), -1);
        }
        CHECK.due("without SCRATCHES", new StuckGroove().tames(0), -1);
    }

    private static void tamesBy99() {
        CHECK.sentence("tames: -2: not by 99");
        for (int times : new int[] {1, 2, 98, 99}) {
            CHECK.due(times + " times", Check.told("scrat 0 1 1 0 1;law back 49 + " + times + " - worn;").tames(0), times);
        }
        CHECK.due("100 times", Check.told("scrat 0 1 1 0 1;law back 149 - worn;").tames(0), -2);
        CHECK.due("never", Check.told("scrat 0 100 1 0 1;arm 0;law wear 0;").tames(0), -2);
        CHECK.due("by wear of 9", Check.told("scrat 0 1 1 0 1;law back 149 - worn;law wear 10;").tames(0), 12);
        StuckGroove x = Check.told("scrat 0 100 1 0 1;arm 0;");
        x.tames(0);
        CHECK.due("nothing is WORN by it", x.scratch(0, 5), 0);
    }

    private static void numbersOfChance() {
        CHECK.sentence("chance: a seed 0 .. 2147483647 .. n 1 .. 200 .. NONE: no such ones");
        StuckGroove x = Check.told(FIVE);
        CHECK.due("chance(0, 4)", x.chance(0, 4), 0);
        CHECK.due("chance(0, 5)", x.chance(0, 5), 10);
        CHECK.due("chance(2147483647, 5)", x.chance(Integer.MAX_VALUE, 5), 10);
        CHECK.due("chance(0, 200)", x.chance(0, 200), 10);
        CHECK.due("chance(0, 1)", x.chance(0, 1), 0);
        for (int n : new int[] {-1, 0, 201, FAR_OFF[0], FAR_OFF[1]}) {
            CHECK.due("chance(0, " + n + ")", x.chance(0, n), -1);
        }
        CHECK.due("chance(-1, 5)", x.chance(-1, 5), -1);
        CHECK.due("chance(least, 5)", x.chance(FAR_OFF[0], 5), -1);
        x.nudge(9);
        CHECK.due("OUT", x.chance(0, 1), 10);
        // As it goes, it is OUT in 200 TURNS, not in 199: by odds of 100 and 0 drawn numbers don't matter.
        CHECK.due("OUT in 200, for 199", Check.told(outIn(200)).chance(7, 199), 0);
        CHECK.due("OUT in 200, for 200", Check.told(outIn(200)).chance(7, 200), 10);
    }

    /** Each time draws one number, the next time the next one. */
    private static void tenTimesOfChance() {
        CHECK.sentence("In how many of ten times drawn (numbers .. one behind another)");
        for (int seed : new int[] {0, 1, 99999, Integer.MAX_VALUE - 1, Integer.MAX_VALUE}) {
            for (int odds : new int[] {1, 30, 50, 99}) {
                long last = seed;
                int due = 0;
                for (int time = 0; time < 10; time++) {
                    last = (last * 1103515245L + 12345L) % 2147483648L;
                    due += last / 65536 % 100 >= odds ? 1 : 0;
                }
                StuckGroove x = Check.told(ONE + "law back " + odds + ";");
                CHECK.due("chance(" + seed + ", 1) by odds of " + odds, x.chance(seed, 1), due);
            }
        }
    }

    private static void numbersOfTried() {
        CHECK.sentence("TRIED (n 0 .. 200); NONE: no such ones (i 0 of all but 2)");
        StuckGroove x = Check.told(STUCK + "scrat 1 1 1 1 1;");
        for (int what = 0; what <= 4; what++) {
            CHECK.due("tried(" + what + ", 0, 0)", x.tried(what, 0, 0), 0);
            CHECK.due("tried(" + what + ", 0, 200)", x.tried(what, 0, 200), what == 2 ? 1 : 200);
            for (int n : new int[] {-1, 201, FAR_OFF[0], FAR_OFF[1]}) {
                CHECK.due("tried(" + what + ", 0, " + n + ")", x.tried(what, 0, n), -1);
            }
            for (int i : new int[] {-1, 2, FAR_OFF[0], FAR_OFF[1]}) {
                CHECK.due("tried(" + what + ", " + i + ", 9)", x.tried(what, i, 9), -1);
            }
            CHECK.due("tried(" + what + ", 1, 9)", x.tried(what, 1, 9), what == 2 ? 9 : -1);
        }
        for (int what : new int[] {-1, 5, FAR_OFF[0], FAR_OFF[1]}) {
            CHECK.due("tried(" + what + ", 0, 9)", x.tried(what, 0, 9), -1);
        }
    }

    private static void scratchesOfTried() {
        CHECK.sentence("TRIED .. 2 SCRATCH i isn't there");
        CHECK.due("of none", Check.told(FIVE).tried(2, 0, 9), -1);
        String four = Check.times("groove 1 1;", 5) + "scrat 0 0 1 0 1;scrat 1 0 1 0 1;scrat 2 0 1 0 1;scrat 3 0 1 0 1;law back ";
        for (int i = 0; i < 4; i++) {
            StuckGroove x = Check.told(four + "(place = " + i + ") * 100;");
            for (int j = 0; j < 4; j++) {
                CHECK.due(i + " throws, " + j + " isn't there", x.tried(2, j, 50), i == j ? 5 : 50);
            }
            CHECK.due("there is no fifth one", x.tried(2, 4, 50), -1);
        }
        CHECK.sentence("TRIED .. 3 WEIGHT 9, 4 WEIGHT 0");
        StuckGroove x = Check.told(ONE + "law back (heavy < 9) * 100;arm 8;");
        CHECK.due("as it is", x.out(50, 2), 50);
        CHECK.due("WEIGHT 9", x.tried(3, 0, 50), 1);
        CHECK.due("WEIGHT 0", x.tried(4, 0, 50), 50);
        x = Check.told(ONE + "law back (heavy > 0) * 100;arm 1;");
        CHECK.due("WEIGHT 9", x.tried(3, 0, 50), 50);
        CHECK.due("WEIGHT 0", x.tried(4, 0, 50), 1);
        CHECK.due("the WEIGHT stays", x.count(10), 1);
        x = Check.told(ONE + "law back (heavy <> 9) * 100;");
        CHECK.due("WEIGHT 9 and no other", x.tried(3, 0, 50), 1);
        x = Check.told(ONE + "groove 1 1;scrat 1 0 1 0 1;arm 5;law back (heavy <> 5) * 100;");
        CHECK.due("without a SCRATCH the WEIGHT is as it is", x.tried(2, 0, 50), 2);
        CHECK.due("without GUESTS too", x.tried(0, 0, 50), 2);
        CHECK.due("without wear too", x.tried(1, 0, 50), 2);
    }

    /** What one call tries otherwise is as told for the next one. */
    private static void eachCallForItself() {
        CHECK.sentence("as it goes, with GUESTS, as WORN and told, whatever was asked ahead");
        String told = "groove 1 1;groove 1 2;groove 1 3;groove 1 4;scrat 1 70 1 0 1;scrat 2 75 1 0 1;guest a 4 1 1;guest b 9 1 1;arm 0;seed 5;";
        for (int ahead = 0; ahead <= 12; ahead++) {
            StuckGroove x = Check.told(told);
            StuckGroove y = Check.told(told);
            ask(x, ahead);
            CHECK.due("behind " + ahead + ", out(200, 2)", x.out(200, 2), 54);
            ask(x, ahead);
            CHECK.due("behind " + ahead + ", gets(0, 200)", x.gets(0, 200), y.gets(0, 200));
            ask(x, ahead);
            CHECK.due("behind " + ahead + ", likely(5, 1, 0)", x.likely(5, 1, 0), y.likely(5, 1, 0));
            ask(x, ahead);
            CHECK.due("behind " + ahead + ", tames(0)", x.tames(0), y.tames(0));
            ask(x, ahead);
            CHECK.due("behind " + ahead + ", scratch(0, 6)", x.scratch(0, 6), 70);
            ask(x, ahead);
            x.go(30);
            y.go(30);
            CHECK.due("behind " + ahead + ", go(30)", Check.state(x), Check.state(y));
            x.anew();
            y.anew();
            CHECK.due("behind go(30), out(200, 2)", x.out(200, 2), y.out(200, 2));
        }
    }

    private static void ask(StuckGroove x, int which) {
        switch (which) {
            case 0: x.loop(); break;
            case 1: x.chance(3, 9); break;
            case 2: x.tried(1, 0, 50); break;
            case 3: x.tried(2, 0, 50); break;
            case 4: x.tried(3, 0, 50); break;
            case 5: x.threw(0); break;
            case 6: x.threw(1); break;
            case 7: x.rule(1, 1, 50); break;
            case 8: x.light(0); break;
            case 9: x.when(1, 0); break;
            case 10: x.plays(); break;
            case 11: x.rests(0, 1); break;
            default: x.go(0);
        }
    }
}

/** Both sides of each bound that the document names of bytes, a TEXT and its FAULTS ('==== 1.', promises 1 to 5). */
public final class TextBoundsTest {
    private static final Check CHECK = new Check();
    private static final int BLANKS = 0x20202020;

    public static void main(String[] args) {
        aNewObjectIsEmpty();
        feedTakesSevenHundred();
        feedRefusedBringsNone();
        bytesOfEachNumber();
        textOfNoMoreThanThereAre();
        textOfRefusedLengthLeavesBytes();
        textTakesAllBytes();
        textWithAFaultLeavesAll();
        textBeginsAnew();
        faultOfTheLatest();
        wordsOfOneToSixLetters();
        blanksAreTenAndThirtyTwo();
        signsOfE();
        lettersAndDigitsEnd();
        linesEndWithASemicolon();
        moreMustCome();
        twelveGrooves();
        fourScratches();
        fourGuests();
        numbersOfGrooves();
        numbersOfScratches();
        numbersOfGuests();
        numbersToldOnce();
        numbersWithoutTheirLine();
        numbersOfE();
        aSignOfTwoStandsTogether();
        oneComparison();
        eightOpen();
        sixtyFourKnots();
        eachKindOfKnot();
        toldAlready();
        theFirstFault();
        ofOnePlaceTheLeast();
        scratchOfAGrooveThereIsnt();
        names();
        CHECK.close("TextBoundsTest");
    }

    private static void right(String text, int lines) {
        StuckGroove x = new StuckGroove();
        CHECK.due("text of '" + text + "'", Check.tell(x, text), lines);
        CHECK.due("fault(0) of '" + text + "'", x.fault(0), 0);
        CHECK.due("fault(1) of '" + text + "'", x.fault(1), StuckGroove.NONE);
    }

    private static void faulty(String text, int fault, int place) {
        StuckGroove x = new StuckGroove();
        CHECK.due("text of '" + text + "'", Check.tell(x, text), StuckGroove.NONE);
        CHECK.due("fault(0) of '" + text + "'", x.fault(0), fault);
        CHECK.due("fault(1) of '" + text + "'", x.fault(1), place);
    }

    /** A number between two bits of a LINE: right from least to most, too much on both sides of them. */
    private static void number(String ahead, long least, long most, String behind) {
        right(ahead + least + behind, 1);
        right(ahead + most + behind, 1);
        right(ahead + "000000000000" + most + behind, 1);
        if (least > 0) {
            faulty(ahead + (least - 1) + behind, 2, ahead.length());
        }
        faulty(ahead + (most + 1) + behind, 2, ahead.length());
        faulty(ahead + (most + 4294967296L) + behind, 2, ahead.length());
        faulty(ahead + "18446744073709551616" + most + behind, 2, ahead.length());
        faulty(ahead + "-1" + behind, 1, ahead.length());
    }

    private static void aNewObjectIsEmpty() {
        CHECK.sentence("A TEXT without LINES; an empty TAPE of bytes");
        StuckGroove x = new StuckGroove();
        CHECK.due("state", Check.state(x), "0 0 0 0 0 -2 0 0 0 0 3 0 0 0 ");
        CHECK.due("no bytes", x.text(1), -2);
        CHECK.due("fault(0)", x.fault(0), 0);
        CHECK.due("fault(1)", x.fault(1), -1);
        CHECK.due("feed", x.feed(0, 0, 0, 0, 0), 20);
    }

    private static void feedTakesSevenHundred() {
        CHECK.sentence("NONE, and none come, if there would be more than 700");
        StuckGroove x = new StuckGroove();
        for (int i = 1; i < 35; i++) {
            x.feed(BLANKS, BLANKS, BLANKS, BLANKS, BLANKS);
        }
        CHECK.due("680 and 20", x.feed(BLANKS, BLANKS, BLANKS, BLANKS, BLANKS), 700);
        CHECK.due("700 and 20", x.feed(BLANKS, BLANKS, BLANKS, BLANKS, BLANKS), -1);
        CHECK.due("and again", x.feed(BLANKS, BLANKS, BLANKS, BLANKS, BLANKS), -1);
        CHECK.due("none came", x.text(701), -2);
        CHECK.due("700 are there", x.text(700), 0);
    }

    private static void feedRefusedBringsNone() {
        CHECK.sentence("NONE, and none come, if there would be more than 700");
        StuckGroove x = new StuckGroove();
        for (int i = 0; i < 35; i++) {
            x.feed(BLANKS, BLANKS, BLANKS, BLANKS, 0x61726d37);
        }
        x.feed(0x24242424, 0x24242424, 0x24242424, 0x24242424, 0x24242424);
        CHECK.due("the last 20 are as they were", x.text(700), -1);
        CHECK.due("the first fault is behind the first arm", x.fault(1), 36);
        CHECK.due("as 'arm' stands there, where ';' must", x.fault(0), 1);
    }

    private static void bytesOfEachNumber() {
        CHECK.sentence("Twenty bytes come behind those there are, four of each number, the highest first");
        StuckGroove x = new StuckGroove();
        // 'arm 1 ;seed 99999 ; ' and, behind those, 'price 11 9;         '.
        CHECK.due("feed", x.feed(0x61726d20, 0x31203b73, 0x65656420, 0x39393939, 0x39203b20), 20);
        CHECK.due("feed", x.feed(0x70726963, 0x65203131, 0x20393b20, BLANKS, BLANKS), 40);
        CHECK.due("text(40)", x.text(40), 3);
        CHECK.due("arm", x.count(10), 1);
        for (int at = 0; at < 20; at++) {
            int[] five = {BLANKS, BLANKS, BLANKS, BLANKS, BLANKS};
            five[at / 4] |= 0x80 << 24 - at % 4 * 8;
            x.feed(five[0], five[1], five[2], five[3], five[4]);
            CHECK.due("a byte above 127 at " + at, x.text(20), -1);
            CHECK.due("its place", x.fault(1), at);
            CHECK.due("its fault", x.fault(0), 1);
        }
    }

    private static void textOfNoMoreThanThereAre() {
        CHECK.sentence("-2, and the bytes stay: there are not so many, n is below 0");
        StuckGroove x = new StuckGroove();
        CHECK.due("text(0) of none", x.text(0), 0);
        CHECK.due("text(1) of none", x.text(1), -2);
        x.feed(BLANKS, BLANKS, BLANKS, BLANKS, BLANKS);
        CHECK.due("text(-1)", x.text(-1), -2);
        CHECK.due("text(least)", x.text(Integer.MIN_VALUE), -2);
        CHECK.due("text(21)", x.text(21), -2);
        CHECK.due("text(most)", x.text(Integer.MAX_VALUE), -2);
        CHECK.due("text(20)", x.text(20), 0);
    }

    private static void textOfRefusedLengthLeavesBytes() {
        CHECK.sentence("-2, and the bytes stay");
        StuckGroove x = Check.told("groove 1 1;arm 5;");
        x.go(1);
        x.weigh(4);
        x.keep();
        String state = Check.state(x);
        Check.feed(x, "arm 7;");
        CHECK.due("text(21)", x.text(21), -2);
        CHECK.due("text(-1)", x.text(-1), -2);
        CHECK.due("nothing changed", Check.state(x), state);
        CHECK.due("they stayed", x.feed(BLANKS, BLANKS, BLANKS, BLANKS, BLANKS), 40);
        CHECK.due("the image stayed", x.back(), 1);
        CHECK.due("text(6)", x.text(6), 1);
        CHECK.due("arm 7", x.count(10), 7);
    }

    private static void textTakesAllBytes() {
        CHECK.sentence("The first n bytes (there are none then)");
        for (int n : new int[] {0, 6, 20}) {
            StuckGroove x = new StuckGroove();
            Check.feed(x, "arm 7;");
            CHECK.due("text(" + n + ")", x.text(n), n == 0 ? 0 : 1);
            CHECK.due("none are left behind text(" + n + ")", x.text(1), -2);
            CHECK.due("the next ones are the first ones", x.feed(BLANKS, BLANKS, BLANKS, BLANKS, BLANKS), 20);
        }
        StuckGroove x = new StuckGroove();
        Check.feed(x, "arm 7;");
        CHECK.due("text(5), with a FAULT", x.text(5), -1);
        CHECK.due("none are left", x.text(1), -2);
    }

    private static void textWithAFaultLeavesAll() {
        CHECK.sentence("NONE with a FAULT, all stays");
        StuckGroove x = Check.told("groove 2 1;groove 3 1;scrat 1 90 1 5 1;guest bo 1 0 2;law worth 50 + turn;seed 3;arm 2;");
        x.go(9);
        x.tape(3, 1, true);
        x.keep();
        x.weigh(8);
        x.known(0);
        String state = Check.state(x);
        long law = x.law(2, 1);
        int turns = x.out(200, 0);
        for (String text : new String[] {"$", "groove 9 9;arm", "groove 9 9;arm 10;", "guest bo 9 9 9;guest bo", "law worth 1;law worth 2;",
                "scrat 1 1 1 1 1;law back 1;law wear 9;price 9 9;seed 99999;arm 9;seed 1"}) {
            CHECK.due("text of '" + text + "'", Check.tell(x, text), -1);
            CHECK.due("all stays", Check.state(x), state);
            CHECK.due("the law stays", x.law(2, 1), law);
            CHECK.due("no law of back", x.law(0, 0), Long.MIN_VALUE);
            CHECK.due("GUESTS stay", x.named(2 << 25 | 15 << 20), 0);
            CHECK.due("what is asked stays", x.out(200, 0), turns);
        }
        CHECK.due("what can be undone stays", x.undo(), 0);
        CHECK.due("the image stays", x.back(), 9);
    }

    private static void textBeginsAnew() {
        CHECK.sentence("(TURN 0, the needle in GROOVE 0, nothing on TAPE, all KNOWN, no IMAGE, nothing to undo then)");
        StuckGroove x = Check.told("groove 1 7;groove 1 7;scrat 0 100 1 0 1;law back 100;guest a 2 0 5;arm 9;seed 5;");
        x.go(3);
        x.tape(1, 0, true);
        x.known(0);
        x.keep();
        x.nudge(1);
        CHECK.due("text", Check.tell(x, "groove 1 1;groove 1 1;scrat 0 1 1 1 1;guest a 1 1 1;"), 4);
        CHECK.due("all is new", Check.state(x), "2 1 1 0 0 0 0 0 0 0 3 0 0 0 0 0 0 0 ");
        CHECK.due("no IMAGE", x.back(), -1);
        CHECK.due("nothing to undo", x.undo(), -1);
        x.tape(1, 0, true);
        CHECK.due("all KNOWN", x.count(12), 1);
        CHECK.due("a TEXT without LINES", Check.tell(x, "  "), 0);
        CHECK.due("the needle is OUT", Check.state(x), "0 0 0 0 0 -2 0 0 0 0 3 0 0 0 ");
    }

    private static void faultOfTheLatest() {
        CHECK.sentence("Of the latest text() that was not -2, what 0: its FAULT (0), 1: its place (NONE without)");
        StuckGroove x = new StuckGroove();
        Check.tell(x, "arm 10;");
        CHECK.due("fault(0)", x.fault(0), 2);
        CHECK.due("fault(1)", x.fault(1), 4);
        x.text(1);
        x.text(-1);
        CHECK.due("fault(0) behind -2", x.fault(0), 2);
        CHECK.due("fault(1) behind -2", x.fault(1), 4);
        Check.tell(x, "arm 1;");
        CHECK.due("fault(0) without", x.fault(0), 0);
        CHECK.due("fault(1) without", x.fault(1), -1);
        CHECK.sentence("NONE for another what");
        CHECK.due("fault(-1)", x.fault(-1), -1);
        CHECK.due("fault(2)", x.fault(2), -1);
        Check.tell(x, "arm 10;");
        CHECK.due("fault(-1) with a FAULT", x.fault(-1), -1);
        CHECK.due("fault(2) with a FAULT", x.fault(2), -1);
    }

    private static void wordsOfOneToSixLetters() {
        CHECK.sentence("W: one of 1 .. 6 letters, none of those of the language");
        right("guest a 1 1 1;", 1);
        right("guest zzzzzz 1 1 1;", 1);
        faulty("guest zzzzzzz 1 1 1;", 1, 6);
        faulty("guest 1 1 1;", 1, 6);
        faulty("guest ; 1 1 1;", 1, 6);
        String language = "groove scrat guest arm price seed law back wear worth or and not place odds worn heavy round heard turn";
        for (String word : language.split(" ")) {
            faulty("guest " + word + " 1 1 1;", 1, 6);
            if (word.length() < 6) {
                right("guest " + word + "z 1 1 1;", 1);
            }
            right("guest " + word.substring(1) + "x 1 1 1;", 1);
        }
        CHECK.sentence("a word of more than 6 letters that isn't of the language");
        faulty("grooves 1 1;", 1, 0);
        faulty("law backend 1;", 1, 4);
        faulty("law back placess;", 1, 9);
    }

    private static void blanksAreTenAndThirtyTwo() {
        CHECK.sentence("Blanks 10, 32");
        for (int c = 0; c < 256; c++) {
            String text = "arm" + (char) c + "5;";
            if (c == 10 || c == 32 || c == '0') {
                right(text, 1);
            } else if (c >= '1' && c <= '9') {
                faulty(text, 2, 3);
            } else if (c >= 'a' && c <= 'z') {
                faulty(text, 1, 0);
            } else {
                faulty(text, 1, 3);
            }
        }
    }

    /** Each byte ahead of an operand and behind one. */
    private static void signsOfE() {
        CHECK.sentence("1 a TOKEN that is none or can't stand there");
        for (int c = 0; c < 256; c++) {
            String ahead = "law back " + (char) c + "1;";
            String behind = "law back 1" + (char) c + ";";
            boolean digit = c >= '0' && c <= '9';
            if (digit || c == 10 || c == 32) {
                right(ahead, 1);
                right(behind, 1);
            } else if (c == '(') {
                faulty(ahead, 1, 11);
                faulty(behind, 1, 10);
            } else {
                faulty(ahead, 1, 9);
                // A sign wants more behind it, where ';' stands.
                faulty(behind, 1, "+-*/<>=".indexOf(c) >= 0 || c == ';' ? 11 : 10);
            }
        }
    }

    private static void lettersAndDigitsEnd() {
        CHECK.sentence("Words: small letters in a row; N: digits");
        for (int c : new int[] {'`', '{', '@', 'A', 'Z', '[', '/', ':'}) {
            faulty("arm 5;" + (char) c, 1, 6);
            faulty("guest a" + (char) c + " 1 1 1;", 1, 7);
            faulty("arm 5" + (char) c + ";", 1, 5);
        }
        right("guest a1 1 1;", 1);
        right("guest az1 1 1;", 1);
        right("arm0;", 1);
        right("arm9;", 1);
    }

    private static void linesEndWithASemicolon() {
        CHECK.sentence("A TEXT: { LINE ';' }");
        right("", 0);
        right("arm 1;", 1);
        right("arm 1;seed 1;", 2);
        right("\n arm\n1\n;\n", 1);
        faulty(";", 1, 0);
        faulty("arm 1;;", 1, 6);
        faulty("arm 1 seed 1;", 1, 6);
    }

    /** Each beginning of a text that ends inside a LINE wants more: at its length. */
    private static void moreMustCome() {
        CHECK.sentence("1 .. (the length, if more must come)");
        String[] lines = {"groove 1 1;", "scrat 1 1 1 1 1;", "guest bob 1 1 1;", "arm 1;", "price 1 1;", "seed 1;",
            "law back (1 + worn) * 2 and not (1 < 2 );"};
        for (String line : lines) {
            for (int cut = 1; cut < line.length(); cut++) {
                boolean insideAWord = Character.isLetter(line.charAt(cut)) && Character.isLetter(line.charAt(cut - 1));
                if (!insideAWord) {
                    faulty(line.substring(0, cut), 1, cut);
                    faulty(line.substring(0, cut) + " \n", 1, cut + 2);
                }
            }
            right(line, 1);
        }
    }

    private static void twelveGrooves() {
        CHECK.sentence("GROOVES, at most 12 .. a 13th groove and so on (at the word of the LINE)");
        right(Check.times("groove 1 1;", 12), 12);
        faulty(Check.times("groove 1 1;", 12) + " groove 1 1;", 2, 133);
        faulty(Check.times("groove 1 1;", 12) + "groove", 2, 132);
        CHECK.due("12 of them", Check.told(Check.times("groove 1 1;", 12)).count(0), 12);
    }

    private static void fourScratches() {
        CHECK.sentence("SCRATCHES, at most 4");
        String four = "scrat 0 1 1 1 1;scrat 1 1 1 1 1;scrat 2 1 1 1 1;scrat 3 1 1 1 1;";
        right(four, 4);
        faulty(four + " scrat 4 1 1 1 1;", 2, 65);
        faulty(four + "scrat", 2, 64);
        CHECK.due("4 of them", Check.told(four).count(1), 4);
    }

    private static void fourGuests() {
        CHECK.sentence("GUESTS, at most 4");
        String four = "guest a 1 1 1;guest b 1 1 1;guest c 1 1 1;guest d 1 1 1;";
        right(four, 4);
        faulty(four + " guest e 1 1 1;", 2, 57);
        faulty(four + "guest", 2, 56);
        CHECK.due("4 of them", Check.told(four).count(2), 4);
    }

    private static void numbersOfGrooves() {
        CHECK.sentence("SECONDS 1 .. 9");
        number("groove ", 1, 9, " 5;");
        CHECK.sentence("WORTH 0 .. 9");
        number("groove 5 ", 0, 9, ";");
        StuckGroove x = Check.told("groove 1 0;groove 9 9;");
        CHECK.due("groove(0, 0)", x.groove(0, 0), 1);
        CHECK.due("groove(0, 1)", x.groove(0, 1), 0);
        CHECK.due("groove(1, 0)", x.groove(1, 0), 9);
        CHECK.due("groove(1, 1)", x.groove(1, 1), 9);
    }

    private static void numbersOfScratches() {
        CHECK.sentence("at a GROOVE 0 .. 11 (it may be told behind it; each GROOVE once)");
        number("scrat ", 0, 11, " 1 1 1 1;");
        CHECK.due("told behind it", Check.told("scrat 0 1 1 1 1;groove 1 1;").groove(0, 3), 0);
        CHECK.sentence("BACK 0 .. 100 of a hundred");
        number("scrat 1 ", 0, 100, " 1 0 1;");
        CHECK.sentence("by how many GROOVES 1 .. 9");
        number("scrat 1 1 ", 1, 9, " 0 1;");
        CHECK.sentence("ON 0 .. 100 less BACK");
        number("scrat 1 0 1 ", 0, 100, " 1;");
        number("scrat 1 1 1 ", 0, 99, " 1;");
        number("scrat 1 50 1 ", 0, 50, " 1;");
        number("scrat 1 99 1 ", 0, 1, " 1;");
        number("scrat 1 100 1 ", 0, 0, " 1;");
        CHECK.sentence("ON .. by how many 1 .. 9");
        number("scrat 1 1 1 1 ", 1, 9, ";");
    }

    private static void numbersOfGuests() {
        CHECK.sentence("after so many ROUNDS 1 .. 9");
        number("guest a ", 1, 9, " 1 1;");
        CHECK.sentence("NUDGES by FAR 0 .. 9");
        number("guest a 1 ", 0, 9, " 1;");
        CHECK.sentence("COST 0 .. 99");
        number("guest a 1 1 ", 0, 99, ";");
    }

    private static void numbersToldOnce() {
        CHECK.sentence("arm: WEIGHT 0 .. 9");
        number("arm ", 0, 9, ";");
        CHECK.due("arm 0", Check.told("arm 0;").count(10), 0);
        CHECK.due("arm 9", Check.told("arm 9;").count(10), 9);
        CHECK.sentence("price: of a needle 0 .. 99");
        number("price ", 0, 99, " 1;");
        CHECK.sentence("price: of a turn's wear 0 .. 9");
        number("price 1 ", 0, 9, ";");
        CHECK.sentence("seed: 0 .. 99999");
        number("seed ", 0, 99999, ";");
    }

    private static void numbersWithoutTheirLine() {
        CHECK.sentence("arm: WEIGHT (3 without)");
        CHECK.due("without", Check.told("seed 1;").count(10), 3);
        CHECK.sentence("price: (0, 0)");
        CHECK.due("without", Check.told("seed 1;").needle(50), 1);
        CHECK.due("price 0 1", Check.told("price 0 1;").needle(50), 1);
        CHECK.due("price 1 0", Check.told("price 1 0;").needle(50), 50);
        CHECK.sentence("seed: (0)");
        // The first number of seed 0 is 0 modulo 100, the one of seed 99999 isn't.
        String text = "groove 1 1;scrat 0 1 1 0 1;law back 1;";
        StuckGroove x = Check.told(text);
        StuckGroove y = Check.told(text + "seed 99999;");
        x.go(1);
        y.go(1);
        CHECK.due("without", x.count(5), 0);
        CHECK.due("seed 99999", y.count(5), -2);
        for (int i = 0; i < 3; i++) {
            Check.tell(y, text);
            y.go(1);
            CHECK.due("told anew without", y.count(5), 0);
        }
    }

    private static void numbersOfE() {
        CHECK.sentence("N of E 0 .. 9999");
        number("law back ", 0, 9999, ";");
        number("law wear 1 + (", 0, 9999, ");");
        StuckGroove x = Check.told("groove 1 1;law worth 9999;scrat 0 1 1 1 1;law back 0;");
        CHECK.due("9999", x.law(2, 0), 9999);
        CHECK.due("0", x.law(0, 0), 0);
    }

    private static void aSignOfTwoStandsTogether() {
        CHECK.sentence("A = (or > behind <) right behind < or > belongs to it");
        right("law back 1<=2;", 1);
        right("law back 1<>2;", 1);
        right("law back 1>=2;", 1);
        faulty("law back 1< =2;", 1, 12);
        faulty("law back 1< >2;", 1, 12);
        faulty("law back 1> =2;", 1, 12);
        faulty("law back 1<\n=2;", 1, 12);
        faulty("law back 1><2;", 1, 11);
        faulty("law back 1=<2;", 1, 11);
        faulty("law back 1=>2;", 1, 11);
        faulty("law back 1<<2;", 1, 11);
        faulty("law back 1>>2;", 1, 11);
        faulty("law back 1<==2;", 1, 12);
        faulty("law back 1<>=2;", 1, 12);
        faulty("law back 1<=>2;", 1, 12);
        faulty("law back 1>=>2;", 1, 12);
    }

    private static void oneComparison() {
        CHECK.sentence("C: S [ ( < | <= | = | <> | >= | > ) S ]");
        for (String sign : new String[] {"<", "<=", "=", "<>", ">=", ">"}) {
            String one = "law back 1+2" + sign + "3";
            right(one + ";", 1);
            faulty(one + "=3;", 1, one.length());
            faulty(one + "+3<3;", 1, one.length() + 2);
            right("law back (1" + sign + "2)" + sign + "(1" + sign + "2);", 1);
            right(one + " and 1" + sign + "2 or 1" + sign + "2;", 1);
        }
    }

    private static void eightOpen() {
        CHECK.sentence("a ninth '(' open");
        right("law back " + Check.times("(", 8) + "1" + Check.times(")", 8) + ";", 1);
        faulty("law back " + Check.times("(", 9) + "1" + Check.times(")", 9) + ";", 2, 17);
        String seven = "law back " + Check.times("(", 7);
        right(seven + "(1)+(1)*(1)" + Check.times(")", 7) + ";", 1);
        faulty(seven + "(1)+((1))" + Check.times(")", 7) + ";", 2, 21);
        right("law back (((((((1)))))))" + Check.times("+((((((((1))))))))", 4) + ";", 1);
        right("law back ((((((((1))))))));law wear ((((((((1))))))));", 2);
        faulty("law back ((((((((1))))))));law wear (((((((((1", 2, 44);
    }

    private static void sixtyFourKnots() {
        CHECK.sentence("a 65th KNOT of all E");
        right("law back not 1" + Check.times("+1", 31) + ";", 1);
        faulty("law back not 1" + Check.times("+1", 31) + "+1;", 2, 76);
        String of31 = "0" + Check.times("+1", 15);
        String laws = "law back " + of31 + ";law wear " + of31 + ";law worth ";
        right(laws + "1;", 3);
        StuckGroove x = Check.told(laws + "9;");
        CHECK.due("31 + 31 + 1", x.count(3), 63);
        x = Check.told(laws + "not 9;");
        CHECK.due("31 + 31 + 2", x.count(3), 64);
        faulty(laws + "1+1;", 2, laws.length() + 2);
        faulty(laws + "not not 1;", 2, laws.length() + 8);
        // All of them wait for the last one, in as many '(' as may be open.
        for (int nots = 55; nots <= 63; nots++) {
            String law = "groove 1 1;law worth " + Check.times("not ", nots) + "1;";
            CHECK.due(nots + " not", Check.told(law).law(2, 0), nots % 2 == 0 ? 1 : 0);
            law = "groove 1 1;law worth " + Check.times("(", 8) + Check.times("not ", nots) + "1" + Check.times(")", 8) + ";";
            CHECK.due(nots + " not in eight", Check.told(law).law(2, 0), nots % 2 == 0 ? 1 : 0);
        }
        CHECK.sentence("KNOT (N, NAMES, signs, not, and, or: one each)");
        CHECK.due("'(' and ')' are none", Check.told("law back (((((1)))))+(1);").count(3), 3);
        CHECK.due("one each", Check.told("law back not 1 + worn or 2 <= 3 and 4;").count(3), 10);
    }

    /** 64 KNOTS stand, the 65th one is each kind in turn. */
    private static void eachKindOfKnot() {
        CHECK.sentence("a 65th KNOT of all E (N, NAMES, signs, not, and, or: one each)");
        String full = "law back not 1" + Check.times("+1", 31);
        for (String sign : new String[] {"+", "-", "*", "/", "<", "<=", "=", "<>", ">=", ">", "and", "or"}) {
            faulty(full + " " + sign + " 1;", 2, full.length() + 1);
        }
        String wanting = "law back 1" + Check.times("+1", 31) + " or";
        right("law back 1" + Check.times("+1", 30) + " or 1;", 1);
        for (String operand : new String[] {"1", "place", "odds", "worn", "heavy", "round", "heard", "turn", "not 1"}) {
            faulty(wanting + " " + operand + ";", 2, wanting.length() + 1);
            faulty(wanting + " (" + operand + ");", 2, wanting.length() + 2);
        }
    }

    private static void toldAlready() {
        CHECK.sentence("3 told already: a SCRATCH of the same GROOVE (at it)");
        right("scrat 1 1 1 1 1;scrat 2 1 1 1 1;", 2);
        faulty("scrat 1 1 1 1 1;scrat 1 1 1 1 1;", 3, 22);
        faulty("scrat 1 1 1 1 1;scrat 01 1 1 1 1;", 3, 22);
        faulty("scrat 0 1 1 1 1;scrat 11 1 1 1 1;scrat 11", 3, 39);
        faulty("scrat 0 1 1 1 1;scrat 11 1 1 1 1;scrat 0", 3, 39);
        CHECK.sentence("3 told already: a GUEST's name (at W)");
        right("guest a 1 1 1;guest aa 1 1 1;guest b 1 1 1;", 3);
        faulty("guest a 1 1 1;guest aa 1 1 1;guest a 1 1 1;", 3, 35);
        faulty("guest a 1 1 1;guest aa 1 1 1;guest aa 1 1 1;", 3, 35);
        right("guest abcdef 1 1 1;guest abcdeg 1 1 1;", 2);
        faulty("guest abcdef 1 1 1;guest abcdef 1 1 1;", 3, 25);
        CHECK.sentence("3 told already: arm, price, seed (at the word)");
        right("arm 1;price 1 1;seed 1;", 3);
        faulty("arm 1;price 1 1;seed 1; arm 1;", 3, 24);
        faulty("arm 1;price 1 1;seed 1; price 1 1;", 3, 24);
        faulty("arm 1;price 1 1;seed 1; seed 1;", 3, 24);
        faulty("arm 3;arm 3;", 3, 6);
        faulty("price 0 0;price 0 0;", 3, 10);
        faulty("seed 0;seed 0;", 3, 7);
        CHECK.sentence("3 told already: a law of its LAW (at LAW)");
        right("law back 1;law wear 1;law worth 1;", 3);
        for (String law : new String[] {"back", "wear", "worth"}) {
            faulty("law back 1;law wear 1;law worth 1;law " + law + " 1;", 3, 38);
            faulty("law " + law + " 0;law " + law, 3, 11 + law.length());
        }
    }

    private static void theFirstFault() {
        CHECK.sentence("FAULTS, the first along the text");
        faulty("arm 10;arm 1;$", 2, 4);
        faulty("arm 1;arm 10;$", 3, 6);
        faulty("$arm 10;arm 1;", 1, 0);
        faulty("scrat 1 1 1 1 1;scrat 1 101 1 1 1;", 3, 22);
        faulty("scrat 1 1 1 1 1;scrat 2 101 1 1 1;scrat 1", 2, 24);
        faulty("guest a 1 1 1;guest a 0 1 1;", 3, 20);
        faulty("groove 10 10 10;", 2, 7);
        faulty("groove 1 10 10;", 2, 9);
        faulty("groove 1 1 10;", 1, 11);
        faulty("law back 1;law back 10000;", 3, 15);
        faulty("law back 10000 $;", 2, 9);
        faulty("law back 9999 $ 10000;", 1, 14);
    }

    private static void ofOnePlaceTheLeast() {
        CHECK.sentence("FAULTS .. of one place the least");
        String full = "law back not 1" + Check.times("+1", 31);
        faulty(full + " 10000;", 1, full.length() + 1);
        faulty(full + " not;", 1, full.length() + 1);
        faulty(full + " place;", 1, full.length() + 1);
        String wanting = "law back 1" + Check.times("+1", 31) + "+";
        faulty(wanting + "not 1;", 1, wanting.length());
        faulty(wanting + "+1;", 1, wanting.length());
        faulty(wanting + "10000;", 2, wanting.length());
        faulty("law back ((((((((1(", 1, 18);
        faulty("law back (((((((((", 2, 17);
        faulty("groove 99;", 2, 7);
        faulty("groove a;", 1, 7);
        String four = "guest a 1 1 1;guest b 1 1 1;guest c 1 1 1;guest d 1 1 1;";
        faulty(four + "guest a 1 1 1;", 2, 56);
        String scratches = "scrat 0 1 1 1 1;scrat 1 1 1 1 1;scrat 2 1 1 1 1;scrat 3 1 1 1 1;";
        faulty(scratches + "scrat 0 1 1 1 1;", 2, 64);
    }

    private static void scratchOfAGrooveThereIsnt() {
        CHECK.sentence("A SCRATCH at a GROOVE there isn't does nothing");
        StuckGroove x = Check.told("groove 1 1;groove 1 1;scrat 2 100 1 0 1;law back 100;guest a 1 9 1;");
        CHECK.due("OUT in two TURNS", x.out(200, 0), 2);
        x.go(9);
        CHECK.due("OUT", x.count(5), -2);
        CHECK.due("not WORN", x.scratch(0, 5), 0);
        CHECK.due("nobody got up", x.guest(0, 3), 0);
        x = Check.told("groove 1 1;groove 1 1;scrat 1 100 1 0 1;law back 100;");
        CHECK.due("at the last GROOVE it throws", x.out(200, 0), -2);
        x = Check.told(Check.times("groove 1 1;", 12) + "scrat 11 100 1 0 1;law back 100;");
        CHECK.due("at GROOVE 11 too", x.out(200, 0), -2);
        x = Check.told(Check.times("groove 1 1;", 11) + "scrat 11 100 1 0 1;law back 100;");
        CHECK.due("of 11 GROOVES none is 11", x.out(200, 0), 11);
    }

    private static void names() {
        CHECK.sentence("5 bits each (a is 1; the first one highest of six, 0 behind the last one)");
        StuckGroove x = Check.told("guest z 1 1 1;guest az 1 1 1;guest azazaz 1 1 1;guest zzzzzz 1 1 1;");
        int az = 1 << 5 | 26;
        CHECK.due("z", x.named(26 << 25), 0);
        CHECK.due("az", x.named(az << 20), 1);
        CHECK.due("azazaz", x.named(az << 20 | az << 10 | az), 2);
        CHECK.due("zzzzzz", x.named(26 * 34636833), 3);
        CHECK.sentence("NONE: there is none such");
        CHECK.due("azaz", x.named(az << 20 | az << 10), -1);
        CHECK.due("a", x.named(1 << 25), -1);
        CHECK.due("no letters", x.named(0), -1);
        CHECK.due("the last one lowest", x.named(26), -1);
        CHECK.due("bits above", x.named(26 << 25 | 1 << 30), -1);
        CHECK.due("below 0", x.named(26 << 25 | 1 << 31), -1);
        CHECK.due("-1", x.named(-1), -1);
        CHECK.due("without GUESTS", new StuckGroove().named(0), -1);
        Check.tell(x, "guest a 1 1 1;");
        CHECK.due("of the TEXT ahead", x.named(26 << 25), -1);
        CHECK.due("of the TEXT", x.named(1 << 25), 0);
    }
}

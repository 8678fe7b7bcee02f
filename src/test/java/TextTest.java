import java.util.Locale;

/** Promises 1 to 5: a new object, bytes, the TEXT with its grammar and its FAULTS, names of GUESTS. */
public final class TextTest {
    private static final Check CHECK = new Check();

    public static void main(String[] args) {
        newObject();
        feeding();
        telling();
        lines();
        grammarOfE();
        bounds();
        cuts();
        oneObject();
        manyFaults();
        toldAlready();
        naming();
        CHECK.close("TextTest");
    }

    private static void newObject() {
        CHECK.promise(1);
        StuckGroove x = new StuckGroove();
        int[] due = {0, 0, 0, 0, 0, -2, 0, 0, 0, 0, 3, 0, 0, 0};
        for (int what = 0; what < due.length; what++) {
            CHECK.due("count(" + what + ")", x.count(what), due[what]);
        }
        CHECK.due("fault(0)", x.fault(0), 0);
        CHECK.due("fault(1)", x.fault(1), -1);
        CHECK.due("text(1)", x.text(1), -2);
        CHECK.due("text(0)", x.text(0), 0);
        CHECK.due("feed", x.feed(0, 0, 0, 0, 0), 20);
        CHECK.due("NONE", StuckGroove.NONE, -1);
    }

    private static void feeding() {
        CHECK.promise(2);
        StuckGroove x = new StuckGroove();
        for (int i = 1; i <= 35; i++) {
            CHECK.due("feed " + i, x.feed(0x20202020, 0x20202020, 0x20202020, 0x20202020, 0x20202020), 20 * i);
        }
        CHECK.due("the 36th feed", x.feed(0, 0, 0, 0, 0), -1);
        CHECK.due("text(701)", x.text(701), -2);
        CHECK.due("text(700)", x.text(700), 0);
        CHECK.due("feed behind text", x.feed(0x41203b20, 0, 0, 0, 0), 20);
        CHECK.due("highest first", x.text(4), -1);
        CHECK.due("highest first: place", x.fault(1), 0);
        x.feed(0x20202020, 0x2061726d, 0x20373b20, 0x202020ff, 0x80000000);
        CHECK.due("text(15)", x.text(15), 1);
        CHECK.due("arm", x.count(10), 7);
        x.feed(0x20202020, 0x2061726d, 0x20373b20, 0x202020ff, 0x80000000);
        CHECK.due("a byte of 255", x.text(16), -1);
        CHECK.due("its place", x.fault(1), 15);
    }

    private static void telling() {
        CHECK.promise(3);
        StuckGroove x = Check.told("groove 1 1;groove 2 2;scrat 1 50 1 0 1;seed 5;arm 0;");
        x.go(3);
        x.tape(2, 0, true);
        x.known(0);
        x.keep();
        x.weigh(8);
        Check.feed(x, "arm 4;seed 5;");
        CHECK.due("text(-1)", x.text(-1), -2);
        CHECK.due("text(21)", x.text(21), -2);
        CHECK.due("text(8), the bytes stayed", x.text(8), -1);
        CHECK.due("fault(0)", x.fault(0), 1);
        CHECK.promise(4);
        CHECK.due("fault(1)", x.fault(1), 6);
        CHECK.due("text(5), of no bytes", x.text(5), -2);
        CHECK.due("fault(0) behind -2", x.fault(0), 1);
        CHECK.due("fault(-1)", x.fault(-1), -1);
        CHECK.due("fault(2)", x.fault(2), -1);
        CHECK.promise(3);
        int[] stays = {2, 1, 0, 0, 3, x.count(5), x.count(6), x.count(7), 0, x.count(9), 8, 1, 0, 1};
        for (int what = 0; what < stays.length; what++) {
            CHECK.due("with a FAULT, count(" + what + ")", x.count(what), stays[what]);
        }
        CHECK.due("back() with a FAULT", x.back(), 3);
        x.weigh(9);
        CHECK.due("the next text", Check.tell(x, "\ngroove 3 4 ;\n law wear round ; "), 2);
        int[] due = {1, 0, 0, 1, 0, 0, 0, 0, 0, 0, 3, 0, 0, 0};
        for (int what = 0; what < due.length; what++) {
            CHECK.due("told anew, count(" + what + ")", x.count(what), due[what]);
        }
        CHECK.due("no image", x.back(), -1);
        CHECK.due("nothing to undo", x.undo(), -1);
        x.tape(1, 0, false);
        CHECK.due("all KNOWN", x.count(12), 1);
        CHECK.due("bytes behind n are gone", x.feed(0, 0, 0, 0, 0), 20);
    }

    private static void right(String text, int lines) {
        StuckGroove x = new StuckGroove();
        int got = Check.tell(x, text);
        CHECK.due("text of '" + text + "' (fault " + x.fault(0) + " at " + x.fault(1) + ")", got, lines);
        CHECK.due("fault(0) of '" + text + "'", x.fault(0), 0);
        CHECK.due("fault(1) of '" + text + "'", x.fault(1), -1);
    }

    private static void faulty(String text, int fault, int place) {
        StuckGroove x = new StuckGroove();
        CHECK.due("text of '" + text + "'", Check.tell(x, text), -1);
        CHECK.due("fault(0) of '" + text + "'", x.fault(0), fault);
        CHECK.due("fault(1) of '" + text + "'", x.fault(1), place);
    }

    private static void lines() {
        CHECK.promise(3);
        right("", 0);
        right(" \n ", 0);
        faulty(";", 1, 0);
        faulty("groove 1 1;;", 1, 11);
        faulty("groove 1 1", 1, 10);
        faulty("groove 1 1  ", 1, 12);
        faulty("groove 1;", 1, 8);
        faulty("groove;", 1, 6);
        faulty("scrat;", 1, 5);
        faulty("guest;", 1, 5);
        faulty("guest a;", 1, 7);
        faulty("price;", 1, 5);
        faulty("seed;", 1, 4);
        faulty("law;", 1, 3);
        faulty("groove 1 1 1;", 1, 11);
        faulty("groove 1 a;", 1, 9);
        faulty("groove\t1 1;", 1, 6);
        faulty("groove 1 1;\r", 1, 11);
        faulty("Groove 1 1;", 1, 0);
        faulty("groovy 1 1;", 1, 0);
        faulty("1 1;", 1, 0);
        faulty("back 1;", 1, 0);
        faulty("scrat 1 1 1 1;", 1, 13);
        faulty("guest a 1 1;", 1, 11);
        faulty("guest 1 1 1 1;", 1, 6);
        faulty("guest", 1, 5);
        faulty("arm;", 1, 3);
        faulty("arm -1;", 1, 4);
        faulty("price 1;", 1, 7);
        faulty("seed", 1, 4);
        faulty("law 1;", 1, 4);
        faulty("law place 1;", 1, 4);
        faulty("law or 1;", 1, 4);
        right("groove1 2;arm3;", 2);
        right("groove 001 09;arm 00000000000000000009;", 2);
        for (String word : "groove scrat guest arm price seed law back wear worth or and not place odds worn heavy round heard turn"
                .split(" ")) {
            faulty("guest " + word + " 1 1 1;", 1, 6);
        }
        right("guest sixsix 1 1 1;guest six 1 1 1;guest groov 1 1 1;", 3);
        faulty("guest sevenss 1 1 1;", 1, 6);
        faulty("guest grooves 1 1 1;", 1, 6);
    }

    private static void grammarOfE() {
        right("law back 1;law wear 2;law worth 3;", 3);
        right("law back 1 or 2 and not 3 < 4 + 5 * 6 / 7 - 8;", 1);
        right("law back not not not 1 <> 2;", 1);
        right("law back (1 < 2) < (3 < 4);", 1);
        right("law back 1<=2 and 3>=4 or 5<>6 and 7<8 or 9>10 and 11=12;", 1);
        right("law back place+odds+worn+heavy+round+heard+turn;", 1);
        right("law back (not 1);", 1);
        faulty("law back 1 < 2 < 3;", 1, 15);
        faulty("law back 1 = 2 + 3 = 3;", 1, 19);
        faulty("law back 1 < = 2;", 1, 13);
        faulty("law back 1 > = 2;", 1, 13);
        faulty("law back 1 < > 2;", 1, 13);
        faulty("law back 1 => 2;", 1, 12);
        faulty("law back 1 >< 2;", 1, 12);
        faulty("law back 1 >> 2;", 1, 12);
        faulty("law back 1 == 2;", 1, 12);
        faulty("law back 1 + not 2;", 1, 13);
        faulty("law back 1 * not 2;", 1, 13);
        faulty("law back 1 < not 2;", 1, 13);
        faulty("law back not 1 + not 2;", 1, 17);
        faulty("law back 1 not;", 1, 11);
        faulty("law back not;", 1, 12);
        faulty("law back 1 2;", 1, 11);
        faulty("law back 1 +;", 1, 12);
        faulty("law back - 1;", 1, 9);
        faulty("law back or 1;", 1, 9);
        faulty("law back 1 or or 2;", 1, 14);
        faulty("law back (1;", 1, 11);
        faulty("law back (1", 1, 11);
        faulty("law back 1);", 1, 10);
        faulty("law back ();", 1, 10);
        faulty("law back 1 (2);", 1, 11);
        faulty("law back (1) 2;", 1, 13);
        faulty("law back (1) (2);", 1, 13);
        faulty("law back 1 ! 2;", 1, 11);
        faulty("law back worth;", 1, 9);
        faulty("law back bob;", 1, 9);
        faulty("law back heavys;", 1, 9);
        faulty("law back heavyyy;", 1, 9);
        faulty("law back", 1, 8);
        faulty("law back 1", 1, 10);
    }

    private static void bounds() {
        right(Check.times("groove 9 0;", 12), 12);
        faulty(Check.times("groove 9 0;", 13), 2, 132);
        faulty(Check.times("groove 9 0;", 12) + "groove 0 0;", 2, 132);
        faulty("groove 0 0;", 2, 7);
        faulty("groove 10 0;", 2, 7);
        faulty("groove 1 10;", 2, 9);
        faulty("groove 99999999999999999999999999 a;", 2, 7);
        faulty("groove 4294967297 1;", 2, 7);
        right("scrat 0 100 1 0 1;scrat 11 0 9 100 9;scrat 5 40 1 60 1;scrat 6 0 1 0 1;", 4);
        faulty("scrat 5 40 1 61 1;", 2, 13);
        faulty("scrat 5 40 10 1 1;", 2, 11);
        faulty("scrat 5 40 1 1 0;", 2, 15);
        faulty("scrat 12 1 1 1 1;", 2, 6);
        faulty("scrat 0 1 1 1 1;scrat 1 1 1 1 1;scrat 2 1 1 1 1;scrat 3 1 1 1 1;scrat 0", 2, 64);
        right("guest a 9 9 99;guest b 1 0 0;guest c 1 0 0;guest d 1 0 0;", 4);
        faulty("guest a 10 1 1;", 2, 8);
        faulty("guest a 0 1 1;", 2, 8);
        faulty("guest a 1 10 1;", 2, 10);
        faulty("guest a 1 1 100;", 2, 12);
        faulty("guest a 9 9 9;guest b 1 0 0;guest c 1 0 0;guest d 1 0 0;guest a", 2, 56);
        right("arm 9;price 99 9;seed 99999;", 3);
        right("arm 0;price 0 0;seed 0;", 3);
        faulty("arm 10;", 2, 4);
        faulty("price 100 0;", 2, 6);
        faulty("price 0 10;", 2, 8);
        faulty("seed 100000;", 2, 5);
        right("law back 9999;", 1);
        faulty("law back 10000;", 2, 9);
        right("law back ((((((((1))))))));", 1);
        right("law back ((((((((1)))))))) + ((((((((1))))))));", 1);
        faulty("law back (((((((((1)))))))));", 2, 17);
        faulty("law back 1 + (((((((((1)))))))));", 2, 21);
        faulty("law back 1 (((((((((1)))))))));", 1, 11);
        right("law back 1" + Check.times("+1", 31) + ";law wear 2;", 2);
        faulty("law back 1" + Check.times("+1", 31) + ";law wear 2+2;", 2, 83);
        faulty("law back 1" + Check.times("+1", 31) + ";law wear 2 2;", 1, 84);
        faulty("law back " + Check.times("not ", 65) + "1;", 2, 265);
        faulty("law back " + Check.times("not ", 64) + "and;", 1, 265);
    }

    /** Nothing behind the first n bytes counts. */
    private static void cuts() {
        StuckGroove x = new StuckGroove();
        String[] texts = {"arm 12;", "guest sevenss", "law back 1 <= 2;", "law back 1 < 2;"};
        int[] lengths = {5, 12, 12, 11};
        for (int i = 0; i < texts.length; i++) {
            Check.feed(x, texts[i]);
            CHECK.due("'" + texts[i] + "' cut at " + lengths[i], x.text(lengths[i]), -1);
            CHECK.due("'" + texts[i] + "' cut, fault(0)", x.fault(0), 1);
            CHECK.due("'" + texts[i] + "' cut, fault(1)", x.fault(1), lengths[i]);
        }
        for (String end : new String[] {"1", "x", "<", ">", " ", ";", "$"}) {
            Check.feed(x, Check.times("seed 1;   ", 1) + Check.times(" ", 689) + end);
            CHECK.due("700 bytes with '" + end + "' last", x.text(700), end.equals(" ") ? 1 : -1);
            CHECK.due("their fault's place", x.fault(1), end.equals(" ") ? -1 : 699);
        }
        String law = "law worth " + Check.times(" ", 685) + "1 < 2";
        Check.feed(x, law);
        CHECK.due("700 bytes of a law", x.text(700), -1);
        CHECK.due("700 bytes of a law, the length", x.fault(1), 700);
    }

    /** Texts one behind another on one object, right and wrong ones, leave nothing of one another. */
    private static void oneObject() {
        StuckGroove x = new StuckGroove();
        for (int i = 0; i < 8; i++) {
            String law = "groove 1 " + i + ";law worth " + i + Check.times("+1", 31) + "* 2;";
            CHECK.due("65 knots", Check.tell(x, law), -1);
            law = "groove 1 " + i + ";law worth " + i + Check.times("+1", 31) + ";law back ";
            CHECK.due("64 knots and more", Check.tell(x, law + (i % 2 == 0 ? "1+1;" : "((1;")), -1);
            CHECK.due("64 knots", Check.tell(x, law + "1;"), 3);
            CHECK.due("64 knots worked out", x.law(2, 0), i + 31);
            CHECK.due("count(3)", x.count(3), 64);
            CHECK.due("arm, price and seed", Check.tell(x, "arm 1;price 9 1;seed 7;"), 3);
            CHECK.due("needle", x.needle(9), 4);
            CHECK.due("no more of them", Check.tell(x, "groove 1 1;"), 1);
            CHECK.due("needle", x.needle(9), 1);
            CHECK.due("weight", x.count(10), 3);
            CHECK.due("law", x.law(2, 0), Long.MIN_VALUE);
        }
    }

    /** What a FAULT left open is gone with it. */
    private static void manyFaults() {
        StuckGroove x = new StuckGroove();
        for (int i = 0; i < 20; i++) {
            CHECK.due("eight open", Check.tell(x, "law back " + Check.times("(", 8) + ";"), -1);
            CHECK.due("a sum that waits", Check.tell(x, "law back 1+2*not"), -1);
            CHECK.due("a right one", Check.tell(x, "groove 1 1;law worth " + Check.times("(", 8) + "2+3*4" + Check.times(")", 8) + ";"), 2);
            CHECK.due("its value", x.law(2, 0), 14);
        }
    }

    private static void toldAlready() {
        faulty("arm 1;arm 1;", 3, 6);
        faulty("arm 1;seed 1;arm x", 3, 13);
        faulty("price 1 1;price 1 1;", 3, 10);
        faulty("seed 1;seed 1;", 3, 7);
        faulty("law back 1;law wear 1;law back 1;", 3, 26);
        faulty("law worth 1;law worth;", 3, 16);
        faulty("scrat 3 1 1 1 1;scrat 4 1 1 1 1;scrat 3 101 1 1 1;", 3, 38);
        faulty("guest ab 1 1 1;guest a 1 1 1;guest ab 0 1 1;", 3, 35);
        // The first one along the text counts, not the least one.
        faulty("arm 1;arm 1;$", 3, 6);
        faulty("groove 0 1;$", 2, 7);
    }

    private static int letters(String name) {
        int packed = 0;
        for (char c : (name + "``````").substring(0, 6).toLowerCase(Locale.ROOT).toCharArray()) {
            packed = packed << 5 | c - '`';
        }
        return packed;
    }

    private static void naming() {
        CHECK.promise(5);
        StuckGroove x = Check.told("guest zzzzzz 1 1 1;guest a 1 1 1;guest ab 1 1 1;");
        CHECK.due("named(zzzzzz)", x.named(letters("zzzzzz")), 0);
        CHECK.due("named(a)", x.named(1 << 25), 1);
        CHECK.due("named(ab)", x.named(1 << 25 | 2 << 20), 2);
        CHECK.due("named(abc)", x.named(letters("abc")), -1);
        CHECK.due("named(0)", x.named(0), -1);
        CHECK.due("named(-1)", x.named(-1), -1);
        CHECK.due("letters set lowest", x.named(1), -1);
        CHECK.due("letters with a bit above", x.named(1 << 25 | 1 << 30), -1);
    }
}

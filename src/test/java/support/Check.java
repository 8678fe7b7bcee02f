/** What the tests share: a text is fed and told, an answer is compared, the wrong ones are counted. */
final class Check {
    private int wrong = 0;
    private String about = "";

    void promise(int number) {
        about = "promise " + number + ": ";
    }

    /** The document's sentence that the next answers are about. */
    void sentence(String words) {
        about = "'" + words + "': ";
    }

    void due(String call, long got, long want) {
        if (got != want) {
            wrong++;
            System.out.println(about + call + " answered " + got + ", due is " + want);
        }
    }

    void due(String call, boolean got, boolean want) {
        due(call, got ? 1 : 0, want ? 1 : 0);
    }

    void due(String call, String got, String want) {
        if (!got.equals(want)) {
            wrong++;
            System.out.println(about + call + " answered " + got + ", due is " + want);
        }
    }

    /** Ends the test: exit code 1, if an answer was wrong. */
    void close(String name) {
        System.out.println(name + ": " + (wrong == 0 ? "all answers are as due" : wrong + " answers are not as due"));
        if (wrong != 0) {
            System.exit(1);
        }
    }

    /** Feeds a text, filled up with blanks: how many bytes there are then. */
    static int feed(StuckGroove x, String text) {
        int fed = 0;
        for (int i = 0; i < text.length(); i += 20) {
            int[] five = new int[5];
            for (int j = 0; j < 20; j++) {
                int c = i + j < text.length() ? text.charAt(i + j) : ' ';
                five[j / 4] = five[j / 4] << 8 | c & 255;
            }
            fed = x.feed(five[0], five[1], five[2], five[3], five[4]);
        }
        return fed;
    }

    static int tell(StuckGroove x, String text) {
        feed(x, text);
        return x.text(text.length());
    }

    static StuckGroove told(String text) {
        StuckGroove x = new StuckGroove();
        if (tell(x, text) < 0) {
            throw new IllegalStateException("a test's text has fault " + x.fault(0) + " at " + x.fault(1) + ": " + text);
        }
        return x;
    }

    static String times(String bit, int n) {
        return bit.repeat(n);
    }

    /** All that can be asked of the state: nothing of it changes by a refused call. */
    static String state(StuckGroove x) {
        StringBuilder told = new StringBuilder();
        for (int what = 0; what <= 13; what++) {
            told.append(x.count(what)).append(' ');
        }
        for (int g = 0; g < x.count(0); g++) {
            told.append(x.groove(g, 2)).append(' ');
        }
        for (int s = 0; s < x.count(1); s++) {
            told.append(x.scratch(s, 5)).append(' ');
        }
        for (int g = 0; g < x.count(2); g++) {
            told.append(x.guest(g, 3)).append(' ');
        }
        return told.toString();
    }

    /** A seed of a TEXT whose first number is so modulo 100. */
    static int seedFor(int hundredth) {
        for (int seed = 0; seed <= 99999; seed++) {
            if (firstNumber(seed) % 100 == hundredth) {
                return seed;
            }
        }
        throw new IllegalStateException("no such seed");
    }

    private static long firstNumber(int seed) {
        return (seed * 1103515245L + 12345L) % 2147483648L / 65536;
    }
}

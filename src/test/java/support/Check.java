/** What the tests share: a text is fed and told, an answer is compared, the wrong ones are counted. */
final class Check {
    private int wrong = 0;
    private String about = "";

    void promise(int number) {
        about = "promise " + number + ": ";
    }

    void due(String call, long got, long want) {
        if (got != want) {
            wrong++;
            System.out.println(about + call + " answered " + got + ", due is " + want);
        }
    }

    void due(String call, boolean got, boolean want) {
        due(call, got ? 1 : 0, want ? 1 : 0);
    }

    /** Ends the test: exit code 1, if an answer was wrong. */
    void close(String name) {
        System.out.println(name + ": " + (wrong == 0 ? "all answers are as due" : wrong + " answers are not as due"));
        if (wrong != 0) {
            System.exit(1);
        }
    }

    /** Feeds a text, filled up with blanks: how many bytes there are then. */
    static int feed(StuckGroove x, String text) {
        int fed = 0;
        for (int i = 0; i < text.length(); i += 20) {
            int[] five = new int[5];
            for (int j = 0; j < 20; j++) {
                int c = i + j < text.length() ? text.charAt(i + j) : ' ';
                five[j / 4] = five[j / 4] << 8 | c & 255;
            }
            fed = x.feed(five[0], five[1], five[2], five[3], five[4]);
        }
        return fed;
    }

    static int tell(StuckGroove x, String text) {
        feed(x, text);
        return x.text(text.length());
    }

    static StuckGroove told(String text) {
        StuckGroove x = new StuckGroove();
        if (tell(x, text) < 0) {
            throw new IllegalStateException("a test's text has fault " + x.fault(0) + " at " + x.fault(1) + ": " + text);
        }
        return x;
    }

    static String times(String bit, int n) {
        return bit.repeat(n);
    }
}

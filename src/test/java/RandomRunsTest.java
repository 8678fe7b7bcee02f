import java.util.NoSuchElementException;
import java.util.Random;

/** Runs of calls by chance (always the same ones) on the class and on the plain Model of the document. */
public final class RandomRunsTest {
    private static final String[] NAMES = {"place", "odds", "worn", "heavy", "round", "heard", "turn"};
    private static final String[] SIGNS = {"<", "<=", "=", "<>", ">=", ">", "+", "-", "*", "/", "+", "-", "*", "or", "and"};
    private static final String[] BITS = {"groove", "scrat", "guest", "arm", "price", "seed", "law", "back", "wear", "worth",
        "or", "and", "not", "place", "turn", "a", "bob", "sixsix", "seventh", "0", "1", "9", "10", "100", "99999999999999",
        ";", ";", "(", ")", "+", "<", "=", ">", "$", "\n", "\t", "A"};

    private final Random random;
    private StuckGroove x = new StuckGroove();
    private Model y = new Model();
    private final StringBuilder log = new StringBuilder();
    private int calls = 0;

    private RandomRunsTest(long seed) {
        random = new Random(seed);
    }

    public static void main(String[] args) {
        int runs = args.length > 0 ? Integer.parseInt(args[0]) : 600;
        long from = args.length > 1 ? Long.parseLong(args[1]) : 1;
        for (long seed = from; seed < from + runs; seed++) {
            RandomRunsTest run = new RandomRunsTest(seed);
            try {
                run.play();
            } catch (RuntimeException e) {
                System.out.println("run " + seed + " differs: " + e + "\n" + run.log);
                e.printStackTrace(System.out);
                System.exit(1);
            }
        }
        System.out.println(runs + " random runs agree with the model");
    }

    private void play() {
        int steps = 40 + random.nextInt(120);
        if (random.nextInt(10) > 0) {
            tell(goodText());
        }
        for (int i = 0; i < steps && calls < 500; i++) {
            call(random.nextInt(46));
        }
    }

    private void same(String call, long got, long want) {
        calls++;
        log.append(call).append(" -> ").append(want).append('\n');
        if (got != want) {
            throw new IllegalStateException(call + " answered " + got + ", the model " + want);
        }
    }

    private void tell(String text) {
        byte[] bytes = new byte[(text.length() + 19) / 20 * 20];
        for (int i = 0; i < bytes.length; i++) {
            bytes[i] = (byte) (i < text.length() ? text.charAt(i) : ' ');
        }
        for (int i = 0; i < bytes.length; i += 20) {
            int[] five = new int[5];
            for (int j = 0; j < 20; j++) {
                five[j / 4] = five[j / 4] << 8 | bytes[i + j] & 255;
            }
            same("feed", x.feed(five[0], five[1], five[2], five[3], five[4]), y.feed(five));
        }
        int n = random.nextInt(30) == 0 ? random.nextInt(bytes.length + 25) - 2 : text.length();
        log.append(text).append('\n');
        same("text(" + n + ")", x.text(n), y.text(n));
        same("fault(0)", x.fault(0), y.fault(0));
        same("fault(1)", x.fault(1), y.fault(1));
    }

    private String goodText() {
        StringBuilder b = new StringBuilder();
        int grooves = random.nextInt(13);
        int scratches = random.nextInt(5);
        if (random.nextInt(40) == 0) {
            grooves = 13;
        }
        int heavy = random.nextInt(3);
        for (int i = 0; i < grooves; i++) {
            b.append("groove ").append(1 + random.nextInt(9)).append(' ').append(random.nextInt(10)).append(';');
        }
        int at = random.nextInt(3);
        for (int i = 0; i < scratches && at < 12; i++) {
            int back = heavy == 0 ? random.nextInt(101) : 100 - random.nextInt(30);
            b.append("scrat ").append(at).append(' ').append(back).append(' ').append(1 + random.nextInt(9)).append(' ')
                .append(random.nextInt(101 - back)).append(' ').append(1 + random.nextInt(9)).append(';');
            at += random.nextInt(20) == 0 ? 0 : 1 + random.nextInt(4);
        }
        int guests = random.nextInt(5);
        for (int i = 0; i < guests; i++) {
            String name = random.nextInt(20) == 0 ? "a" : "abcdef".substring(i, i + 1 + random.nextInt(6 - i));
            b.append("guest ").append(name).append(' ').append(1 + random.nextInt(random.nextBoolean() ? 3 : 9)).append(' ')
                .append(random.nextInt(random.nextBoolean() ? 3 : 10)).append(' ').append(random.nextInt(30)).append(';');
        }
        if (random.nextBoolean()) {
            b.append("arm ").append(random.nextInt(10)).append(';');
        }
        if (random.nextBoolean()) {
            b.append("price ").append(random.nextInt(100)).append(' ').append(random.nextInt(10)).append(";\n");
        }
        if (random.nextBoolean()) {
            b.append("seed ").append(random.nextInt(100000)).append(';');
        }
        for (String law : new String[] {"back", "wear", "worth"}) {
            if (random.nextInt(3) == 0) {
                b.append("law ").append(law).append(' ').append(expression(law)).append(';');
            }
        }
        return b.length() > 700 ? b.substring(0, 700) : b.toString();
    }

    private String expression(String law) {
        if (random.nextBoolean()) {
            String base = law.equals("back") ? "odds + heavy * 3 - worn * 2" : law.equals("wear") ? "1 + round" : "place + heard";
            return base + " " + (random.nextBoolean() ? "+ " : "- ") + deep(2);
        }
        return deep(random.nextInt(5));
    }

    private String deep(int depth) {
        if (depth == 0 || random.nextInt(5) == 0) {
            return random.nextInt(3) > 0 ? NAMES[random.nextInt(7)] : "" + random.nextInt(random.nextBoolean() ? 10 : 10020);
        }
        if (random.nextInt(8) == 0) {
            return "not " + deep(depth - 1);
        }
        String left = deep(depth - 1);
        String right = deep(depth - 1);
        String sign = SIGNS[random.nextInt(SIGNS.length)];
        String inner = left + (random.nextInt(4) == 0 ? "\n" : " ") + sign + " " + right;
        return random.nextInt(3) > 0 ? "(" + inner + ")" : inner;
    }

    private String badText() {
        if (random.nextBoolean()) {
            StringBuilder b = new StringBuilder(goodText());
            for (int i = random.nextInt(3); i >= 0 && b.length() > 0; i--) {
                int place = random.nextInt(b.length());
                String bit = BITS[random.nextInt(BITS.length)];
                b.replace(place, Math.min(b.length(), place + random.nextInt(3)), bit);
            }
            return b.length() > 700 ? b.substring(0, 700) : b.toString();
        }
        StringBuilder b = new StringBuilder(random.nextBoolean() ? "law back " : "");
        for (int i = random.nextInt(20); i >= 0; i--) {
            b.append(BITS[random.nextInt(BITS.length)]).append(random.nextBoolean() ? " " : "");
        }
        return b.toString();
    }

    /** Mostly 0 .. most, at times around its bounds or far off. */
    private int about(int most) {
        int kind = random.nextInt(40);
        if (kind == 0) {
            return -1 - random.nextInt(3);
        }
        if (kind == 1) {
            return most + 1 + random.nextInt(2);
        }
        if (kind == 2) {
            return random.nextInt();
        }
        return kind == 3 ? most : random.nextInt(most + 1);
    }

    private void groove(int g, int what) {
        long got;
        long want;
        try {
            got = x.groove(g, what);
        } catch (IndexOutOfBoundsException e) {
            got = 1000001;
        } catch (NoSuchElementException e) {
            got = 1000002;
        }
        try {
            want = y.groove(g, what);
        } catch (IndexOutOfBoundsException e) {
            want = 1000001;
        } catch (NoSuchElementException e) {
            want = 1000002;
        }
        same("groove(" + g + ", " + what + ")", got, want);
    }

    private static long bit(boolean b) {
        return b ? 1 : 0;
    }

    private void call(int which) {
        int a;
        int b;
        int c;
        switch (which) {
            case 0, 1 -> tellNow();
            case 2 -> same("named", x.named(a = letters()), y.named(a));
            case 3 -> groove(about(11), about(3));
            case 4 -> same("scratch(" + (a = about(3)) + ", " + (b = about(6)) + ")", x.scratch(a, b), y.scratch(a, b));
            case 5 -> same("guest(" + (a = about(3)) + ", " + (b = about(3)) + ")", x.guest(a, b), y.guest(a, b));
            case 6 -> same("law(" + (a = about(2)) + ", " + (b = about(3)) + ")", x.law(a, b), y.law(a, b));
            case 7 -> same("weigh(" + (a = about(9)) + ")", bit(x.weigh(a)), bit(y.weigh(a)));
            case 8 -> same("nudge(" + (a = about(18) - 9) + ")", x.nudge(a), y.nudge(a));
            case 9 -> same("anew()", bit(x.anew()), bit(y.anew()));
            case 10, 11 -> same("go(" + (a = about(random.nextInt(5) == 0 ? 99 : 5)) + ")", x.go(a), y.go(a));
            case 12 -> same("out(" + (a = about(200)) + ", " + (b = about(3)) + ")", x.out(a, b), y.out(a, b));
            case 13 -> same("loop()", x.loop(), y.loop());
            case 14 -> same("likely(" + (a = about(7)) + ", " + (b = about(5)) + ", " + (c = about(1)) + ")",
                x.likely(a, b, c), y.likely(a, b, c));
            case 15 -> same("light(" + (a = about(1)) + ")", x.light(a), y.light(a));
            case 16 -> same("when(" + (a = about(9)) + ", " + (b = about(1)) + ")", x.when(a, b), y.when(a, b));
            case 17 -> same("plays()", x.plays(), y.plays());
            case 18 -> same("missed(" + (a = about(9)) + ")", x.missed(a), y.missed(a));
            case 19 -> same("rests(" + (a = about(3)) + ", " + (b = about(3)) + ")", x.rests(a, b), y.rests(a, b));
            case 20 -> same("rest(" + (a = about(3)) + ", " + (b = about(3)) + ", " + (c = about(2)) + ")",
                x.rest(a, b, c), y.rest(a, b, c));
            case 21 -> same("needle(" + (a = about(99)) + ")", x.needle(a), y.needle(a));
            case 22 -> same("most()", x.most(), y.most());
            case 23 -> same("reaches(" + (a = about(11)) + ", " + (b = about(99)) + ")", x.reaches(a, b), y.reaches(a, b));
            case 24 -> same("bestBit(" + (a = about(12)) + ")", x.bestBit(a), y.bestBit(a));
            case 25 -> same("rule(" + (a = about(9)) + ", " + (b = about(9)) + ", " + (c = about(200)) + ")",
                x.rule(a, b, c), y.rule(a, b, c));
            case 26 -> same("bestRule(" + (a = about(60)) + ", " + (b = about(2)) + ")", x.bestRule(a, b), y.bestRule(a, b));
            case 27 -> same("gets(" + (a = about(3)) + ", " + (b = about(200)) + ")", x.gets(a, b), y.gets(a, b));
            case 28 -> same("tames(" + (a = about(3)) + ")", x.tames(a), y.tames(a));
            case 29, 30 -> tape();
            case 31, 32 -> same("strike(" + (a = about(5)) + ")", x.strike(a), y.strike(a));
            case 33 -> same("known(" + (a = random.nextBoolean() ? -1 : about(8)) + ")", bit(x.known(a)), bit(y.known(a)));
            case 34, 35 -> same("threw(" + (a = about(3)) + ")", x.threw(a), y.threw(a));
            case 36 -> same("chance(" + (a = random.nextInt()) + ", " + (b = about(200)) + ")", x.chance(a, b), y.chance(a, b));
            case 37 -> same("tried(" + (a = about(4)) + ", " + (b = about(1)) + ", " + (c = about(200)) + ")",
                x.tried(a, b, c), y.tried(a, b, c));
            case 38 -> same("undo()", x.undo(), y.undo());
            case 39 -> same("keep()", x.keep(), y.keep());
            case 40 -> same("back()", x.back(), y.back());
            default -> same("count(" + (a = about(13)) + ")", x.count(a), y.count(a));
        }
    }

    private void tellNow() {
        if (random.nextInt(4) == 0) {
            tell(random.nextBoolean() ? goodText() : badText());
        }
    }

    private int letters() {
        return random.nextInt(5) == 0 ? random.nextInt() : "\1\2\3\4".charAt(random.nextInt(4)) << 25 | random.nextInt(2) << 21;
    }

    private void tape() {
        int turns = 1 + about(random.nextBoolean() ? 9 : 59);
        int groove = about(5);
        boolean is = random.nextInt(4) == 0;
        same("tape(" + turns + ", " + groove + ", " + is + ")", x.tape(turns, groove, is), y.tape(turns, groove, is));
    }
}

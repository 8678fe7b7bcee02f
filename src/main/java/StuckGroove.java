import java.util.NoSuchElementException;

/** A record with scratches, told as a text, and a needle that gets stuck on it. */
public final class StuckGroove {
    public static final int NONE = -1;

    // The answer for a needle that is in no groove, and for what doesn't come to pass.
    private static final int OUT = -2;
    private static final int MOST_BYTES = 700;
    private static final int MOST_GROOVES = 12;
    private static final int MOST_SCRATCHES = 4;
    private static final int MOST_GUESTS = 4;
    private static final int MOST_KNOTS = 64;
    private static final int MOST_OPEN = 8;
    private static final int MOST_TAPED = 24;
    private static final int MOST_TAPED_TURNS = 60;
    private static final int MOST_STEPS = 20;
    private static final int LAST_TURN = 9999;
    private static final int FAR_AHEAD = 200;

    private static final int LAW_BACK = 0;
    private static final int LAW_WEAR = 1;
    private static final int LAW_WORTH = 2;
    private static final int LAW_COUNT = 3;
    // No value of an E comes near it, so that it can stand for an ERROR.
    private static final long ERROR = Long.MIN_VALUE;
    private static final long GREATEST_VALUE = 1000000000000L;

    // Rows of a scratch and of a guest, as scratch() and guest() number them.
    private static final int AT = 0;
    private static final int BACK = 1;
    private static final int BACK_BY = 2;
    private static final int ON = 3;
    private static final int ON_BY = 4;
    private static final int ROUNDS = 0;
    private static final int FAR = 1;
    private static final int COST = 2;

    // What a scratch does with the needle.
    private static final int GOES_BACK = 0;
    private static final int GOES_ON = 1;
    private static final int GOES_THROUGH = 2;

    // Who listens while turns are tried.
    private static final int NOBODY = 0;
    private static final int GUESTS = 1;
    private static final int RULED = 2;

    // Signs of an E: tokens, waiting operators and (below 0) codes at once.
    private static final int OPEN = 0;
    private static final int OR = 1;
    private static final int AND = 2;
    private static final int NOT = 3;
    private static final int LESS = 4;
    private static final int AT_MOST = 5;
    private static final int SAME = 6;
    private static final int UNLIKE = 7;
    private static final int AT_LEAST = 8;
    private static final int MORE = 9;
    private static final int PLUS = 10;
    private static final int MINUS = 11;
    private static final int TIMES = 12;
    private static final int BY = 13;
    // The other tokens.
    private static final int CLOSE = 14;
    private static final int SEMICOLON = 15;
    private static final int NUMBER = 16;
    private static final int NAME = 17;
    private static final int LINE = 18;
    private static final int LAW = 19;
    private static final int WORD = 20;
    private static final int END = 21;
    private static final int WRONG = 22;

    private static final int[] RANKS = {0, 1, 2, 3, 4, 4, 4, 4, 4, 4, 5, 5, 6, 6};
    private static final int RANK_NOT = 3;
    private static final int RANK_COMPARED = 4;
    // Codes of an E below it are numbers, from it on names.
    private static final int FIRST_NAME = 10000;

    // The words of the language, six signs each: lines, laws, or and not, names.
    private static final String WORDS = "groovescrat guest arm   price seed  law   back  wear  worth or    and   not   place odds  worn  heavy round heard turn  ";
    private static final int WORD_COUNT = 20;
    private static final int FIRST_LAW_WORD = 7;
    private static final int FIRST_SIGN_WORD = 10;
    private static final int FIRST_NAME_WORD = 13;

    private final byte[] fed = new byte[MOST_BYTES];
    private int fedCount = 0;
    private int latestFault = 0;
    private int latestPlace = NONE;
    private Sheet sheet = new Sheet();
    private Sheet spare = new Sheet();
    private final Reader reader = new Reader(fed, spare);
    private final Needle now = new Needle();
    private final Needle image = new Needle();
    private boolean kept = false;
    private int keptKnown = NONE;
    private final Needle trial = new Needle();
    private final Needle ahead = new Needle();
    private final Player player = new Player(sheet, now);
    private final Steps steps = new Steps();
    private final Tape evening = new Tape();
    private final int[] wayPlaces = new int[MOST_TAPED_TURNS + 1];

    public StuckGroove() {
        now.start(sheet);
    }

    public int feed(int a, int b, int c, int d, int e) {
        if (fedCount + 20 > MOST_BYTES) {
            return NONE;
        }
        putBytes(a);
        putBytes(b);
        putBytes(c);
        putBytes(d);
        putBytes(e);
        return fedCount;
    }

    private void putBytes(int four) {
        for (int shift = 24; shift >= 0 && fedCount < MOST_BYTES; shift -= 8) {
            fed[fedCount] = (byte) (four >> shift);
            fedCount++;
        }
    }

    public int text(int n) {
        if (n < 0 || n > fedCount) {
            return -2;
        }
        boolean right = reader.read(n, spare);
        fedCount = 0;
        latestFault = reader.fault;
        latestPlace = reader.faultPlace;
        if (!right) {
            return NONE;
        }
        Sheet old = sheet;
        sheet = spare;
        spare = old;
        now.start(sheet);
        evening.wipe();
        steps.size = 0;
        kept = false;
        return sheet.lines;
    }

    public int fault(int what) {
        if (what == 0) {
            return latestFault;
        }
        return what == 1 ? latestPlace : NONE;
    }

    public int named(int letters) {
        return sheet.guestNamed(letters);
    }

    public int groove(int groove, int what) throws IndexOutOfBoundsException, NoSuchElementException {
        if (!isGroove(groove)) {
            throw new IndexOutOfBoundsException("no such groove");
        }
        switch (what) {
            case 0:
                return sheet.seconds[groove];
            case 1:
                return sheet.worth[groove];
            case 2:
                return now.played[groove];
            case 3:
                return sheet.at[groove];
            default:
                throw new NoSuchElementException("no such what");
        }
    }

    public int scratch(int scratch, int what) {
        if (!isScratch(scratch) || what < 0 || what > 6) {
            return NONE;
        }
        if (what == 5) {
            return now.worn[scratch];
        }
        if (what == 6) {
            player.take(sheet, now);
            return player.backOdds(scratch);
        }
        return sheet.scratch[scratch][what];
    }

    public int guest(int guest, int what) {
        if (!isGuest(guest) || what < 0 || what > 3) {
            return NONE;
        }
        return what == 3 ? now.gotUp[guest] : sheet.guest[guest][what];
    }

    public long law(int what, int which) {
        player.take(sheet, now);
        if (what == LAW_WORTH && isGroove(which)) {
            player.nameGroove(which);
            return sheet.laws.work(what);
        }
        if ((what == LAW_BACK || what == LAW_WEAR) && isScratch(which)) {
            player.nameScratch(which);
            return sheet.laws.work(what);
        }
        return ERROR;
    }

    private boolean isGroove(int groove) {
        return groove >= 0 && groove < sheet.grooves;
    }

    private boolean isScratch(int scratch) {
        return scratch >= 0 && scratch < sheet.scratches;
    }

    private boolean isGuest(int guest) {
        return guest >= 0 && guest < sheet.guests;
    }

    private static boolean within(int number, int least, int most) {
        return number >= least && number <= most;
    }

    public boolean weigh(int weight) {
        if (!within(weight, 0, 9) || weight == now.weight) {
            return false;
        }
        steps.remember(now);
        now.weight = weight;
        return true;
    }

    public int nudge(int far) {
        if (!within(far, -9, 9) || far == 0 || now.place == OUT) {
            return NONE;
        }
        steps.remember(now);
        now.push(far, sheet.grooves);
        return now.place;
    }

    public boolean anew() {
        if (sheet.grooves == 0 || now.place == 0) {
            return false;
        }
        steps.remember(now);
        now.rewind(sheet.grooves);
        return true;
    }

    public int go(int n) {
        if (!within(n, 0, 99) || now.turn + n > LAST_TURN) {
            return NONE;
        }
        player.take(sheet, now);
        player.drawn = true;
        for (int i = 0; i < n; i++) {
            player.turn();
        }
        if (n > 0) {
            steps.size = 0;
        }
        return now.turn;
    }

    public int out(int n, int what) {
        if (!within(n, 0, FAR_AHEAD) || !within(what, 0, 3)) {
            return NONE;
        }
        tryNow(GUESTS);
        int turns = player.run(n);
        switch (what) {
            case 0:
                return trial.place == OUT ? turns : -2;
            case 1:
                return trial.seconds - now.seconds;
            case 2:
                return trial.heard - now.heard;
            default:
                return trial.paid - now.paid;
        }
    }

    private void tryNow(int listeners) {
        trial.copy(now);
        player.take(sheet, trial);
        player.listeners = listeners;
    }

    public int loop() {
        tryNow(NOBODY);
        player.run(FAR_AHEAD - 24);
        int bits = 0;
        for (int i = 0; i < 24 && trial.place >= 0; i++) {
            bits |= 1 << trial.place;
            player.turn();
        }
        return trial.place == OUT ? 0 : bits;
    }

    public long likely(int n, int groove, int what) {
        if (!within(n, 0, 7) || !within(groove, 0, sheet.grooves) || !within(what, 0, 1)) {
            return NONE;
        }
        tryNow(NOBODY);
        player.ways = 0;
        player.spread(n, 1, groove == sheet.grooves ? OUT : groove);
        long all = hundreds(n);
        long common = greatestCommon(player.ways, all);
        if (common == 0) {
            return NONE;
        }
        return (what == 0 ? player.ways : all) / common;
    }

    private static long hundreds(int n) {
        long power = 1;
        for (int i = 0; i < n; i++) {
            power *= 100;
        }
        return power;
    }

    private static long greatestCommon(long a, long b) {
        long x = a;
        long y = b;
        // Euclid's steps on numbers below 2 to the 63 are far fewer.
        for (int i = 0; i < 200 && y != 0; i++) {
            long rest = x % y;
            x = y;
            y = rest;
        }
        return x;
    }

    public int light(int what) {
        if (!within(what, 0, 1)) {
            return NONE;
        }
        int best = -2;
        int least = 0;
        for (int weight = 0; weight <= 9; weight++) {
            tryNow(NOBODY);
            trial.weight = weight;
            player.run(FAR_AHEAD);
            int seconds = trial.seconds - now.seconds;
            if (trial.place == OUT && (best < 0 || seconds < least)) {
                best = weight;
                least = seconds;
            }
        }
        return best < 0 || what == 0 ? best : least;
    }

    public int when(int far, int what) {
        if (!within(far, 1, 9) || !within(what, 0, 1)) {
            return NONE;
        }
        int best = -2;
        int least = 0;
        ahead.copy(now);
        for (int turn = 0; turn <= 20; turn++) {
            trial.copy(ahead);
            player.take(sheet, trial);
            player.listeners = NOBODY;
            trial.push(far, sheet.grooves);
            player.run(FAR_AHEAD - turn);
            int seconds = trial.seconds - now.seconds;
            if (trial.place == OUT && (best < 0 || seconds < least)) {
                best = turn;
                least = seconds;
            }
            player.needle = ahead;
            player.turn();
        }
        return best < 0 || what == 0 ? best : least;
    }

    public int plays() {
        tryNow(NOBODY);
        for (int play = 1; play <= 60; play++) {
            trial.rewind(sheet.grooves);
            player.wasBack = false;
            player.run(FAR_AHEAD);
            if (trial.place == OUT && !player.wasBack) {
                return play;
            }
        }
        return -2;
    }

    public int missed(int far) {
        if (!within(far, 1, 9) || now.place == OUT) {
            return NONE;
        }
        int sum = 0;
        for (int g = now.place + 1; g < now.place + far && g < sheet.grooves; g++) {
            sum += sheet.worth[g];
        }
        return sum;
    }

    public int rests(int one, int other) {
        return canWait(one, other) ? Integer.bitCount(restBits(one, other)) : NONE;
    }

    public int rest(int one, int other, int k) {
        if (!canWait(one, other) || k < 0) {
            return NONE;
        }
        int bits = restBits(one, other);
        int left = k;
        for (int i = 0; i < 4; i++) {
            if ((bits >> i & 1) == 1) {
                if (left == 0) {
                    return i / 2 * 10 + i % 2;
                }
                left--;
            }
        }
        return -2;
    }

    private boolean canWait(int one, int other) {
        return isGuest(one) && isGuest(other) && one != other && now.place != OUT;
    }

    /** Which of 00, 01, 10, 11 are RESTS: bits 0 to 3. */
    private int restBits(int one, int other) {
        int farOne = sheet.guest[one][FAR];
        int farOther = sheet.guest[other][FAR];
        int neither = waited(NONE);
        int first = waited(farOne);
        int second = waited(farOther);
        int both = farOne >= farOther ? first : second;
        // What getting up spares each one, if the other one stays and if it gets up.
        int oneAlone = neither - first - sheet.guest[one][COST];
        int oneToo = second - both - sheet.guest[one][COST];
        int otherAlone = neither - second - sheet.guest[other][COST];
        int otherToo = first - both - sheet.guest[other][COST];
        int bits = oneAlone <= 0 && otherAlone <= 0 ? 1 : 0;
        bits |= oneToo <= 0 && otherAlone >= 0 ? 2 : 0;
        bits |= oneAlone >= 0 && otherToo <= 0 ? 4 : 0;
        bits |= oneToo >= 0 && otherToo >= 0 ? 8 : 0;
        return bits;
    }

    /** SECONDS till OUT behind a NUDGE by far (NONE: without one), 99 at most. */
    private int waited(int far) {
        tryNow(NOBODY);
        if (far >= 0) {
            trial.push(far, sheet.grooves);
        }
        player.run(FAR_AHEAD);
        int seconds = trial.seconds - now.seconds;
        return trial.place == OUT && seconds < 99 ? seconds : 99;
    }

    public int needle(int n) {
        if (!within(n, 1, 99)) {
            return NONE;
        }
        int best = 1;
        int bestCost = sheet.price;
        for (int turns = 2; turns <= n; turns++) {
            int cost = sheet.price + sheet.turnPrice * (turns * (turns - 1) / 2);
            // By cross products, so that nothing is rounded.
            if (cost * best < bestCost * turns) {
                best = turns;
                bestCost = cost;
            }
        }
        return best;
    }

    public int most() {
        int best = NONE;
        for (int g = 0; g < sheet.grooves; g++) {
            if (best < 0 || now.played[g] > now.played[best]) {
                best = g;
            }
        }
        return best;
    }

    public int reaches(int groove, int n) {
        if (!isGroove(groove) || !within(n, 1, 99)) {
            return NONE;
        }
        tryNow(GUESTS);
        for (int turn = 1; turn <= n; turn++) {
            if (trial.place == groove) {
                return turn;
            }
            player.turn();
        }
        return -2;
    }

    public int bestBit(int k) {
        if (!within(k, 1, MOST_GROOVES)) {
            return NONE;
        }
        int best = -2;
        int most = 0;
        for (int first = 0; first + k <= sheet.grooves; first++) {
            int sum = 0;
            for (int g = first; g < first + k; g++) {
                sum += sheet.worth[g];
            }
            if (best < 0 || sum > most) {
                best = first;
                most = sum;
            }
        }
        return best;
    }

    public int rule(int rounds, int far, int n) {
        if (!within(rounds, 1, 9) || !within(far, 1, 9) || !within(n, 0, FAR_AHEAD)) {
            return NONE;
        }
        tryRule(rounds, far);
        player.run(n);
        return trial.heard - now.heard;
    }

    private void tryRule(int rounds, int far) {
        tryNow(RULED);
        player.ruleRounds = rounds;
        player.ruleFar = far;
    }

    public int bestRule(int n, int what) {
        if (!within(n, 0, 60) || !within(what, 0, 2)) {
            return NONE;
        }
        int bestRounds = 1;
        int bestFar = 1;
        int most = -1;
        for (int rounds = 1; rounds <= 9; rounds++) {
            for (int far = 1; far <= 9; far++) {
                tryRule(rounds, far);
                player.run(n);
                int heard = trial.heard - now.heard;
                if (heard > most) {
                    most = heard;
                    bestRounds = rounds;
                    bestFar = far;
                }
            }
        }
        if (what == 2) {
            return most;
        }
        return what == 0 ? bestRounds : bestFar;
    }

    public int gets(int guest, int n) {
        if (!isGuest(guest) || !within(n, 0, FAR_AHEAD)) {
            return NONE;
        }
        tryNow(GUESTS);
        player.run(n);
        return trial.gotUp[guest] - now.gotUp[guest];
    }

    public int tames(int scratch) {
        if (!isScratch(scratch)) {
            return NONE;
        }
        tryNow(NOBODY);
        for (int times = 0; times <= 99; times++) {
            if (player.backOdds(scratch) < 50) {
                return times;
            }
            trial.worn[scratch] += player.wearOf(scratch);
        }
        return -2;
    }

    public int tape(int turns, int groove, boolean is) {
        if (!within(turns, 1, MOST_TAPED_TURNS) || !isGroove(groove)) {
            return NONE;
        }
        return evening.add(turns, groove, is, NONE);
    }

    public int strike(int taped) {
        if (taped < 0 || taped >= evening.size) {
            return NONE;
        }
        return evening.add(0, NONE, false, taped);
    }

    public boolean known(int n) {
        if (!within(n, -1, evening.size)) {
            return false;
        }
        evening.knownBy = n;
        return true;
    }

    public int threw(int scratch) {
        if (!isScratch(scratch)) {
            return NONE;
        }
        evening.markStruck();
        int bits = 0;
        for (int by = 1; by <= 9; by++) {
            wayFromText(scratch, by);
            if (evening.agrees(wayPlaces)) {
                bits |= 1 << by;
            }
        }
        return bits;
    }

    /** Where the needle is behind each TURN from the TEXT on, if a SCRATCH throws BACK by so many. */
    private void wayFromText(int scratch, int by) {
        trial.start(sheet);
        player.take(sheet, trial);
        player.listeners = NOBODY;
        player.changed = scratch;
        player.changedBy = by;
        for (int turn = 0; turn <= MOST_TAPED_TURNS; turn++) {
            wayPlaces[turn] = trial.place;
            player.turn();
        }
    }

    public int chance(int seed, int n) {
        if (seed < 0 || !within(n, 1, FAR_AHEAD)) {
            return NONE;
        }
        int number = seed;
        int found = 0;
        for (int time = 0; time < 10; time++) {
            tryNow(GUESTS);
            player.drawn = true;
            trial.number = number;
            player.run(n);
            number = trial.number;
            found += trial.place == OUT ? 1 : 0;
        }
        return found;
    }

    public int tried(int what, int i, int n) {
        if (!within(what, 0, 4) || !within(n, 0, FAR_AHEAD) || (what == 2 ? !isScratch(i) : i != 0)) {
            return NONE;
        }
        tryNow(what == 0 ? NOBODY : GUESTS);
        player.wears = what != 1;
        if (what == 2) {
            player.gone = i;
        }
        if (what >= 3) {
            trial.weight = what == 3 ? 9 : 0;
        }
        player.run(n);
        return trial.heard - now.heard;
    }

    public int undo() {
        if (steps.size == 0) {
            return NONE;
        }
        steps.recall(now);
        return steps.size;
    }

    public int keep() {
        image.copy(now);
        keptKnown = evening.knownBy;
        kept = true;
        return now.turn;
    }

    public int back() {
        if (!kept) {
            return NONE;
        }
        now.copy(image);
        evening.knownBy = keptKnown;
        steps.size = 0;
        return now.turn;
    }

    public int count(int what) {
        switch (what) {
            case 0:
                return sheet.grooves;
            case 1:
                return sheet.scratches;
            case 2:
                return sheet.guests;
            case 3:
                return sheet.laws.knots;
            case 4:
                return now.turn;
            case 5:
                return now.place;
            case 6:
                return now.seconds;
            case 7:
                return now.heard;
            case 8:
                return now.paid;
            case 9:
                return now.rounds;
            case 10:
                return now.weight;
            case 11:
                return evening.size;
            case 12:
                return evening.knownCount();
            case 13:
                return steps.size;
            default:
                return NONE;
        }
    }

    /** What a TEXT tells. */
    private static final class Sheet {
        private int lines = 0;
        private int grooves = 0;
        private int scratches = 0;
        private int guests = 0;
        private int arm = 3;
        private int price = 0;
        private int turnPrice = 0;
        private int seed = 0;
        private final int[] seconds = new int[MOST_GROOVES];
        private final int[] worth = new int[MOST_GROOVES];
        // The SCRATCH of each GROOVE, told or not yet told.
        private final int[] at = new int[MOST_GROOVES];
        private final int[][] scratch = new int[MOST_SCRATCHES][5];
        private final int[][] guest = new int[MOST_GUESTS][3];
        private final int[] names = new int[MOST_GUESTS];
        private final Laws laws = new Laws();

        Sheet() {
            wipe();
        }

        void wipe() {
            lines = 0;
            grooves = 0;
            scratches = 0;
            guests = 0;
            arm = 3;
            price = 0;
            turnPrice = 0;
            seed = 0;
            for (int g = 0; g < MOST_GROOVES; g++) {
                at[g] = NONE;
            }
            laws.wipe();
        }

        int guestNamed(int letters) {
            for (int i = 0; i < guests; i++) {
                if (names[i] == letters) {
                    return i;
                }
            }
            return NONE;
        }
    }

    /** The laws of a TEXT as codes one behind another: what is worked on first, then the sign. */
    private static final class Laws {
        private int knots = 0;
        private int coded = 0;
        private final int[] code = new int[MOST_KNOTS];
        private final int[] from = new int[LAW_COUNT];
        private final int[] to = new int[LAW_COUNT];
        // What the NAMES mean for the E that is worked out next.
        private final long[] values = new long[7];
        private final long[] stack = new long[MOST_KNOTS];

        void wipe() {
            knots = 0;
            coded = 0;
            for (int i = 0; i < LAW_COUNT; i++) {
                from[i] = 0;
                to[i] = 0;
            }
        }

        void add(int item) {
            if (coded < MOST_KNOTS) {
                code[coded] = item;
                coded++;
            }
        }

        /** The value of a law's E; ERROR with one, and without such a law. */
        long work(int law) {
            if (law < 0 || law >= LAW_COUNT) {
                return ERROR;
            }
            int depth = 0;
            for (int i = from[law]; i < to[law]; i++) {
                int item = code[i];
                if (item >= 0) {
                    if (depth >= MOST_KNOTS) {
                        return ERROR;
                    }
                    stack[depth] = item >= FIRST_NAME ? values[item - FIRST_NAME] : item;
                    depth++;
                } else if (item == -NOT) {
                    if (depth < 1) {
                        return ERROR;
                    }
                    stack[depth - 1] = stack[depth - 1] == 0 ? 1 : 0;
                } else {
                    if (depth < 2) {
                        return ERROR;
                    }
                    depth--;
                    long value = apply(-item, stack[depth - 1], stack[depth]);
                    if (value > GREATEST_VALUE || value < -GREATEST_VALUE) {
                        return ERROR;
                    }
                    stack[depth - 1] = value;
                }
            }
            return depth == 1 ? stack[0] : ERROR;
        }

        private static long apply(int sign, long a, long b) {
            switch (sign) {
                case OR:
                    return a != 0 || b != 0 ? 1 : 0;
                case AND:
                    return a != 0 && b != 0 ? 1 : 0;
                case LESS:
                    return a < b ? 1 : 0;
                case AT_MOST:
                    return a <= b ? 1 : 0;
                case SAME:
                    return a == b ? 1 : 0;
                case UNLIKE:
                    return a != b ? 1 : 0;
                case AT_LEAST:
                    return a >= b ? 1 : 0;
                case MORE:
                    return a > b ? 1 : 0;
                case PLUS:
                    return a + b;
                case MINUS:
                    return a - b;
                case TIMES:
                    // A product of two allowed values may be more than a long holds.
                    long x = a < 0 ? -a : a;
                    long y = b < 0 ? -b : b;
                    return x != 0 && y > GREATEST_VALUE / x ? ERROR : a * b;
                case BY:
                    return b == 0 ? ERROR : a / b;
                default:
                    return ERROR;
            }
        }
    }

    /** Reads a TEXT into a Sheet, up to the first FAULT. */
    private static final class Reader {
        private int fault = 0;
        private int faultPlace = NONE;
        private Sheet sheet;
        private final byte[] bytes;
        private int length = 0;
        private int at = 0;
        // The token that is next, where it begins, and its number, word or letters.
        private int kind = END;
        private int start = 0;
        private int value = 0;
        private final boolean[] told = new boolean[3];
        private final int[] words = new int[WORD_COUNT];
        private final int[] waiting = new int[MOST_KNOTS + MOST_OPEN];
        private int waits = 0;
        private int open = 0;

        Reader(byte[] fed, Sheet into) {
            bytes = fed;
            sheet = into;
            for (int i = 0; i < WORD_COUNT; i++) {
                int letters = 0;
                for (int j = 6 * i; j < 6 * i + 6; j++) {
                    char c = WORDS.charAt(j);
                    letters = letters << 5 | (c == ' ' ? 0 : c - 'a' + 1);
                }
                words[i] = letters;
            }
        }

        /** The first n bytes, of which there must be so many: whether they are right. */
        boolean read(int n, Sheet into) {
            sheet = into;
            sheet.wipe();
            length = n;
            at = 0;
            fault = 0;
            faultPlace = NONE;
            told[0] = false;
            told[1] = false;
            told[2] = false;
            next();
            // Every LINE has a byte at least.
            for (int i = 0; i <= length && kind != END && fault == 0; i++) {
                readLine();
                if (kind != SEMICOLON) {
                    flaw(1, start);
                }
                next();
                sheet.lines++;
            }
            return fault == 0;
        }

        private void flaw(int which, int place) {
            if (fault == 0) {
                fault = which;
                faultPlace = place;
            }
        }

        private void readLine() {
            if (kind != LINE) {
                flaw(1, start);
                return;
            }
            switch (value) {
                case 0:
                    readGroove();
                    break;
                case 1:
                    readScratch();
                    break;
                case 2:
                    readGuest();
                    break;
                case 6:
                    next();
                    readLaw();
                    break;
                default:
                    readOnce(value - 3);
            }
        }

        private void readGroove() {
            int g = sheet.grooves;
            if (g >= MOST_GROOVES) {
                flaw(2, start);
                return;
            }
            next();
            sheet.seconds[g] = readNumber(1, 9);
            sheet.worth[g] = readNumber(0, 9);
            sheet.grooves++;
        }

        private void readScratch() {
            int s = sheet.scratches;
            if (s >= MOST_SCRATCHES) {
                flaw(2, start);
                return;
            }
            next();
            int place = start;
            int groove = readNumber(0, MOST_GROOVES - 1);
            if (fault != 0) {
                return;
            }
            if (sheet.at[groove] != NONE) {
                flaw(3, place);
                return;
            }
            int[] row = sheet.scratch[s];
            row[AT] = groove;
            row[BACK] = readNumber(0, 100);
            row[BACK_BY] = readNumber(1, 9);
            row[ON] = readNumber(0, 100 - row[BACK]);
            row[ON_BY] = readNumber(1, 9);
            sheet.at[groove] = s;
            sheet.scratches++;
        }

        private void readGuest() {
            int i = sheet.guests;
            if (i >= MOST_GUESTS) {
                flaw(2, start);
                return;
            }
            next();
            if (kind != WORD) {
                flaw(1, start);
                return;
            }
            if (sheet.guestNamed(value) != NONE) {
                flaw(3, start);
                return;
            }
            sheet.names[i] = value;
            next();
            int[] row = sheet.guest[i];
            row[ROUNDS] = readNumber(1, 9);
            row[FAR] = readNumber(0, 9);
            row[COST] = readNumber(0, 99);
            sheet.guests++;
        }

        /** A LINE that may stand once: 0 arm, 1 price, 2 seed. */
        private void readOnce(int which) {
            if (which < 0 || which > 2 || told[which]) {
                flaw(3, start);
                return;
            }
            told[which] = true;
            next();
            if (which == 0) {
                sheet.arm = readNumber(0, 9);
            } else if (which == 1) {
                sheet.price = readNumber(0, 99);
                sheet.turnPrice = readNumber(0, 9);
            } else {
                sheet.seed = readNumber(0, 99999);
            }
        }

        private int readNumber(int least, int most) {
            if (fault != 0) {
                return 0;
            }
            int number = value;
            if (kind != NUMBER) {
                flaw(1, start);
                return 0;
            }
            if (number < least || number > most) {
                flaw(2, start);
                return 0;
            }
            next();
            return number;
        }

        private void readLaw() {
            if (kind != LAW) {
                flaw(1, start);
                return;
            }
            int law = value;
            Laws laws = sheet.laws;
            if (laws.to[law] > laws.from[law]) {
                flaw(3, start);
                return;
            }
            next();
            laws.from[law] = laws.coded;
            waits = 0;
            open = 0;
            boolean wanted = true;
            // Every token but the last one has a byte at least.
            for (int i = 0; i <= length && fault == 0; i++) {
                if (wanted) {
                    wanted = readOperand();
                } else if (kind == SEMICOLON && open == 0) {
                    break;
                } else {
                    wanted = readSign();
                }
            }
            unwind(RANKS[OR]);
            laws.to[law] = laws.coded;
        }

        /** Whether an operand is wanted still. */
        private boolean readOperand() {
            if (kind == OPEN) {
                if (open >= MOST_OPEN) {
                    flaw(2, start);
                }
                open++;
                push(OPEN);
                next();
                return true;
            }
            if (kind == NOT && waitingRank() <= RANK_NOT) {
                tie();
                push(NOT);
                next();
                return true;
            }
            if (kind == NUMBER) {
                if (value >= FIRST_NAME) {
                    flaw(2, start);
                }
                tie();
                sheet.laws.add(value);
            } else if (kind == NAME) {
                tie();
                sheet.laws.add(FIRST_NAME + value);
            } else {
                flaw(1, start);
            }
            next();
            return false;
        }

        /** Whether an operand is wanted behind it. */
        private boolean readSign() {
            if (kind == CLOSE && open > 0) {
                unwind(RANKS[OR]);
                waits--;
                open--;
                next();
                return false;
            }
            if (kind < OR || kind > BY || kind == NOT) {
                flaw(1, start);
                return false;
            }
            int rank = RANKS[kind];
            if (rank == RANK_COMPARED) {
                unwind(rank + 1);
                // A comparison's sides are sums: it is no side of another one.
                if (waitingRank() == RANK_COMPARED) {
                    flaw(1, start);
                }
            } else {
                unwind(rank);
            }
            tie();
            push(kind);
            next();
            return true;
        }

        private int waitingRank() {
            return waits > 0 ? RANKS[waiting[waits - 1]] : 0;
        }

        /** Signs that bind as strongly as rank go behind what they work on. */
        private void unwind(int rank) {
            while (waits > 0 && RANKS[waiting[waits - 1]] >= rank) {
                waits--;
                sheet.laws.add(-waiting[waits]);
            }
        }

        private void push(int sign) {
            if (fault == 0 && waits < waiting.length) {
                waiting[waits] = sign;
                waits++;
            }
        }

        private void tie() {
            if (sheet.laws.knots >= MOST_KNOTS) {
                flaw(2, start);
            } else {
                sheet.laws.knots++;
            }
        }

        private void next() {
            while (at < length && (bytes[at] == 10 || bytes[at] == 32)) {
                at++;
            }
            start = at;
            value = 0;
            if (at >= length) {
                kind = END;
                return;
            }
            int c = bytes[at];
            if (c >= 'a' && c <= 'z') {
                nextWord();
            } else if (c >= '0' && c <= '9') {
                nextNumber();
            } else {
                at++;
                kind = sign(c);
            }
        }

        private void nextNumber() {
            kind = NUMBER;
            while (at < length && bytes[at] >= '0' && bytes[at] <= '9') {
                // Beyond every bound it needn't grow any more.
                if (value < 1000000) {
                    value = value * 10 + bytes[at] - '0';
                }
                at++;
            }
        }

        private void nextWord() {
            int letters = 0;
            while (at < length && bytes[at] >= 'a' && bytes[at] <= 'z') {
                if (at - start < 6) {
                    letters |= (bytes[at] - 'a' + 1) << 5 * (5 - (at - start));
                }
                at++;
            }
            if (at - start > 6) {
                kind = WRONG;
                return;
            }
            kind = WORD;
            value = letters;
            for (int i = 0; i < WORD_COUNT; i++) {
                if (words[i] == letters) {
                    takeLanguageWord(i);
                }
            }
        }

        private void takeLanguageWord(int i) {
            if (i >= FIRST_NAME_WORD) {
                kind = NAME;
                value = i - FIRST_NAME_WORD;
            } else if (i >= FIRST_SIGN_WORD) {
                kind = OR + i - FIRST_SIGN_WORD;
            } else if (i >= FIRST_LAW_WORD) {
                kind = LAW;
                value = i - FIRST_LAW_WORD;
            } else {
                kind = LINE;
                value = i;
            }
        }

        private int sign(int c) {
            switch (c) {
                case ';':
                    return SEMICOLON;
                case '(':
                    return OPEN;
                case ')':
                    return CLOSE;
                case '+':
                    return PLUS;
                case '-':
                    return MINUS;
                case '*':
                    return TIMES;
                case '/':
                    return BY;
                case '=':
                    return SAME;
                case '<':
                    if (follows('>')) {
                        return UNLIKE;
                    }
                    return follows('=') ? AT_MOST : LESS;
                case '>':
                    return follows('=') ? AT_LEAST : MORE;
                default:
                    return WRONG;
            }
        }

        private boolean follows(int c) {
            if (at < length && bytes[at] == c) {
                at++;
                return true;
            }
            return false;
        }
    }

    /** Where a needle is and all that its TURNS have changed. */
    private static final class Needle {
        private int place = OUT;
        private int turn = 0;
        private int seconds = 0;
        private int heard = 0;
        private int paid = 0;
        private int rounds = 0;
        private int weight = 0;
        private int number = 0;
        private final int[] played = new int[MOST_GROOVES];
        private final int[] worn = new int[MOST_SCRATCHES];
        private final int[] gotUp = new int[MOST_GUESTS];

        void start(Sheet sheet) {
            turn = 0;
            seconds = 0;
            heard = 0;
            paid = 0;
            weight = sheet.arm;
            number = sheet.seed;
            for (int i = 0; i < MOST_GROOVES; i++) {
                played[i] = 0;
            }
            for (int i = 0; i < MOST_SCRATCHES; i++) {
                worn[i] = 0;
            }
            for (int i = 0; i < MOST_GUESTS; i++) {
                gotUp[i] = 0;
            }
            rewind(sheet.grooves);
        }

        void copy(Needle other) {
            place = other.place;
            turn = other.turn;
            seconds = other.seconds;
            heard = other.heard;
            paid = other.paid;
            rounds = other.rounds;
            weight = other.weight;
            number = other.number;
            System.arraycopy(other.played, 0, played, 0, MOST_GROOVES);
            System.arraycopy(other.worn, 0, worn, 0, MOST_SCRATCHES);
            System.arraycopy(other.gotUp, 0, gotUp, 0, MOST_GUESTS);
        }

        void rewind(int grooves) {
            place = grooves > 0 ? 0 : OUT;
            rounds = 0;
        }

        /** A NUDGE; nothing is done, if it is OUT. */
        void push(int far, int grooves) {
            if (place != OUT) {
                move(place + far, grooves);
                rounds = 0;
            }
        }

        void move(int to, int grooves) {
            int at = to < 0 ? 0 : to;
            place = at < grooves ? at : OUT;
        }

        int draw() {
            number = (int) (number * 1103515245L + 12345L & 2147483647L);
            return number / 65536;
        }
    }

    /** Plays TURNS with a needle, as it goes or by drawn numbers, as told or otherwise. */
    private static final class Player {
        private Sheet sheet;
        private Needle needle;
        private boolean drawn = false;
        private boolean wears = true;
        private int listeners = GUESTS;
        private int ruleRounds = 0;
        private int ruleFar = 0;
        // A SCRATCH that isn't there, and one that throws BACK by another number.
        private int gone = NONE;
        private int changed = NONE;
        private int changedBy = 0;
        private boolean wasBack = false;
        private long ways = 0;

        Player(Sheet firstSheet, Needle firstNeedle) {
            sheet = firstSheet;
            needle = firstNeedle;
        }

        /** From now on it plays with this needle, as it goes and all as told. */
        void take(Sheet newSheet, Needle newNeedle) {
            sheet = newSheet;
            needle = newNeedle;
            drawn = false;
            wears = true;
            listeners = GUESTS;
            gone = NONE;
            changed = NONE;
            wasBack = false;
        }

        /** TURNS till it is OUT, n at most: how many. */
        int run(int n) {
            int turns = 0;
            while (turns < n && needle.place != OUT) {
                turn();
                turns++;
            }
            return turns;
        }

        void turn() {
            int g = needle.place;
            if (g >= 0 && g < sheet.grooves) {
                needle.seconds += sheet.seconds[g];
                needle.heard += worthOf(g);
                needle.played[g]++;
                int scratch = sheet.at[g];
                if (scratch < 0 || scratch == gone) {
                    needle.move(g + 1, sheet.grooves);
                } else {
                    int back = backOdds(scratch);
                    int on = onOdds(scratch, back);
                    int way = drawn ? drawnWay(back, on) : likelyWay(back, on);
                    // The law of wear still sees the ROUNDS ahead of this throw.
                    if (wears) {
                        needle.worn[scratch] += wearOf(scratch);
                    }
                    throwNeedle(scratch, way);
                    if (way == GOES_BACK) {
                        wasBack = true;
                        listen();
                    }
                }
            }
            needle.turn++;
        }

        private int drawnWay(int back, int on) {
            if (back + on == 0) {
                return GOES_THROUGH;
            }
            int number = needle.draw() % 100;
            if (number < back) {
                return GOES_BACK;
            }
            return number < back + on ? GOES_ON : GOES_THROUGH;
        }

        private static int likelyWay(int back, int on) {
            if (back >= 50) {
                return GOES_BACK;
            }
            return on >= 50 ? GOES_ON : GOES_THROUGH;
        }

        private void throwNeedle(int scratch, int way) {
            int[] row = sheet.scratch[scratch];
            if (way == GOES_BACK) {
                int by = scratch == changed ? changedBy : row[BACK_BY];
                needle.move(needle.place - by, sheet.grooves);
                needle.rounds++;
            } else {
                needle.move(needle.place + (way == GOES_ON ? row[ON_BY] : 1), sheet.grooves);
                needle.rounds = 0;
            }
        }

        /** The first one who has had enough gets up. */
        private void listen() {
            int far = listeners == RULED && ruleRounds <= needle.rounds ? ruleFar : NONE;
            for (int i = 0; far < 0 && listeners == GUESTS && i < sheet.guests; i++) {
                if (sheet.guest[i][ROUNDS] <= needle.rounds) {
                    far = sheet.guest[i][FAR];
                    needle.paid += sheet.guest[i][COST];
                    needle.gotUp[i]++;
                }
            }
            if (far >= 0) {
                int by = drawn && far > 0 ? far + needle.draw() % 3 - 1 : far;
                needle.push(by, sheet.grooves);
            }
        }

        int backOdds(int scratch) {
            nameScratch(scratch);
            long value = sheet.laws.work(LAW_BACK);
            if (value == ERROR) {
                value = sheet.scratch[scratch][BACK] - 5 * needle.worn[scratch] - 5 * needle.weight;
            }
            return cut(value, 100);
        }

        private int onOdds(int scratch, int back) {
            int told = sheet.scratch[scratch][ON];
            return told < 100 - back ? told : 100 - back;
        }

        int wearOf(int scratch) {
            nameScratch(scratch);
            long value = sheet.laws.work(LAW_WEAR);
            return value == ERROR ? 1 : cut(value, 9);
        }

        private int worthOf(int groove) {
            nameGroove(groove);
            long value = sheet.laws.work(LAW_WORTH);
            return value == ERROR ? sheet.worth[groove] : cut(value, 99);
        }

        private static int cut(long value, int most) {
            if (value < 0) {
                return 0;
            }
            return value > most ? most : (int) value;
        }

        /** What the NAMES mean in a law of back or wear. */
        void nameScratch(int scratch) {
            long[] values = sheet.laws.values;
            values[0] = sheet.scratch[scratch][AT];
            values[1] = sheet.scratch[scratch][BACK];
            values[2] = needle.worn[scratch];
            values[3] = needle.weight;
            values[4] = needle.rounds;
            values[5] = needle.seconds;
            values[6] = needle.turn;
        }

        /** What the NAMES mean in the law of worth. */
        void nameGroove(int groove) {
            long[] values = sheet.laws.values;
            values[0] = groove;
            values[1] = 0;
            values[2] = 0;
            values[3] = needle.weight;
            values[4] = needle.rounds;
            values[5] = needle.played[groove];
            values[6] = needle.turn;
        }

        /** Adds to ways, in hundreds for each TURN, how likely the needle comes to a place (or OUT). */
        private void spread(int left, long weight, int target) {
            int g = needle.place;
            if (left <= 0 || g < 0 || g >= sheet.grooves) {
                ways += g == target ? weight * hundreds(left) : 0;
                return;
            }
            int seconds = needle.seconds;
            int rounds = needle.rounds;
            needle.seconds += sheet.seconds[g];
            int scratch = sheet.at[g];
            if (scratch < 0) {
                needle.move(g + 1, sheet.grooves);
                needle.turn++;
                spread(left - 1, weight * 100, target);
                needle.turn--;
            } else {
                int worn = needle.worn[scratch];
                int back = backOdds(scratch);
                int on = onOdds(scratch, back);
                int after = worn + wearOf(scratch);
                for (int way = GOES_BACK; way <= GOES_THROUGH; way++) {
                    int odds = way == GOES_BACK ? back : way == GOES_ON ? on : 100 - back - on;
                    if (odds > 0) {
                        needle.worn[scratch] = after;
                        needle.place = g;
                        needle.rounds = rounds;
                        throwNeedle(scratch, way);
                        needle.turn++;
                        spread(left - 1, weight * odds, target);
                        needle.turn--;
                    }
                }
                needle.worn[scratch] = worn;
            }
            needle.place = g;
            needle.seconds = seconds;
            needle.rounds = rounds;
        }
    }

    /** What can be undone: how all was ahead of each WEIGHT, NUDGE and play anew. */
    private static final class Steps {
        private int size = 0;
        private final int[] places = new int[MOST_STEPS];
        private final int[] rounds = new int[MOST_STEPS];
        private final int[] weights = new int[MOST_STEPS];

        void remember(Needle needle) {
            if (size == MOST_STEPS) {
                System.arraycopy(places, 1, places, 0, MOST_STEPS - 1);
                System.arraycopy(rounds, 1, rounds, 0, MOST_STEPS - 1);
                System.arraycopy(weights, 1, weights, 0, MOST_STEPS - 1);
                size--;
            }
            places[size] = needle.place;
            rounds[size] = needle.rounds;
            weights[size] = needle.weight;
            size++;
        }

        void recall(Needle needle) {
            if (size > 0) {
                size--;
                needle.place = places[size];
                needle.rounds = rounds[size];
                needle.weight = weights[size];
            }
        }
    }

    /** An evening's TAPE. */
    private static final class Tape {
        private int size = 0;
        private int knownBy = NONE;
        private final int[] turns = new int[MOST_TAPED];
        private final int[] grooves = new int[MOST_TAPED];
        private final boolean[] was = new boolean[MOST_TAPED];
        // Which one it is a STRIKE of; NONE: it is none.
        private final int[] strikes = new int[MOST_TAPED];
        private final boolean[] struck = new boolean[MOST_TAPED];

        void wipe() {
            size = 0;
            knownBy = NONE;
        }

        int add(int behind, int groove, boolean is, int strikes) {
            if (size >= MOST_TAPED) {
                return NONE;
            }
            turns[size] = behind;
            grooves[size] = groove;
            was[size] = is;
            this.strikes[size] = strikes;
            size++;
            return size - 1;
        }

        int knownCount() {
            return knownBy < 0 ? size : knownBy;
        }

        // From the last one on, as only a later one can strike a STRIKE.
        void markStruck() {
            for (int i = 0; i < MOST_TAPED; i++) {
                struck[i] = false;
            }
            for (int i = knownCount() - 1; i >= 0; i--) {
                if (!struck[i] && strikes[i] >= 0) {
                    struck[strikes[i]] = true;
                }
            }
        }

        /** Whether all KNOWN ones are so on a way: the place behind each number of TURNS. */
        boolean agrees(int[] places) {
            for (int i = 0; i < knownCount(); i++) {
                if (!struck[i] && strikes[i] < 0 && (places[turns[i]] == grooves[i]) != was[i]) {
                    return false;
                }
            }
            return true;
        }
    }
}

import java.math.BigInteger;
import java.nio.charset.StandardCharsets;
import java.util.ArrayDeque;
import java.util.ArrayList;
import java.util.Deque;
import java.util.HashMap;
import java.util.List;
import java.util.Map;
import java.util.NoSuchElementException;
import java.util.Set;

/**
 * The document once more, written as plainly as the Java library allows: the random runs
 * compare the class with it. It shares no code with the class.
 */
final class Model {
    static final int OUT = -2;
    static final Set<String> WORDS = Set.of("groove", "scrat", "guest", "arm", "price", "seed", "law", "back",
        "wear", "worth", "or", "and", "not", "place", "odds", "worn", "heavy", "round", "heard", "turn");
    static final Set<String> NAMES = Set.of("place", "odds", "worn", "heavy", "round", "heard", "turn");

    /** A FAULT with its place. */
    static final class Flaw extends RuntimeException {
        final int code;
        final int place;

        Flaw(int code, int place) {
            this.code = code;
            this.place = place;
        }
    }

    /** An ERROR of an E. */
    static final class Wrong extends RuntimeException {
    }

    record Token(String kind, String text, int place) {
    }

    interface Tree {
        long value(Map<String, Long> names);
    }

    record Scratch(int at, int back, int by, int on, int onBy) {
    }

    record Guest(String name, int rounds, int far, int cost) {
    }

    static final class Told {
        final List<int[]> grooves = new ArrayList<>();
        final List<Scratch> scratches = new ArrayList<>();
        final List<Guest> guests = new ArrayList<>();
        final Map<String, Tree> laws = new HashMap<>();
        final Map<String, int[]> once = new HashMap<>();
        int knots = 0;
        int lines = 0;

        int once(String word, int i, int otherwise) {
            return once.containsKey(word) ? once.get(word)[i] : otherwise;
        }
    }

    /** Reads a TEXT by its grammar. */
    static final class Grammar {
        final List<Token> tokens = new ArrayList<>();
        final Told told = new Told();
        int i = 0;
        int open = 0;

        Grammar(byte[] bytes) {
            int p = 0;
            while (p < bytes.length) {
                int from = p;
                int c = bytes[p] & 255;
                p++;
                if (c == 10 || c == 32) {
                    continue;
                }
                if (Character.isLowerCase(c) && c < 128) {
                    while (p < bytes.length && bytes[p] >= 'a' && bytes[p] <= 'z') {
                        p++;
                    }
                    String word = new String(bytes, from, p - from, StandardCharsets.ISO_8859_1);
                    String kind = WORDS.contains(word) ? word : word.length() > 6 ? "wrong" : "word";
                    tokens.add(new Token(kind, word, from));
                } else if (c >= '0' && c <= '9') {
                    while (p < bytes.length && bytes[p] >= '0' && bytes[p] <= '9') {
                        p++;
                    }
                    tokens.add(new Token("number", new String(bytes, from, p - from, StandardCharsets.ISO_8859_1), from));
                } else {
                    String sign = "" + (char) c;
                    if (p < bytes.length && ((c == '<' || c == '>') && bytes[p] == '=' || c == '<' && bytes[p] == '>')) {
                        sign += (char) bytes[p];
                        p++;
                    }
                    boolean good = ";()+-*/<=<>>=".contains(sign);
                    tokens.add(new Token(good ? sign : "wrong", sign, from));
                }
            }
            tokens.add(new Token("end", "", bytes.length));
            while (!is("end")) {
                line();
                take(";");
                told.lines++;
            }
        }

        Token peek() {
            return tokens.get(i);
        }

        boolean is(String kind) {
            return peek().kind.equals(kind);
        }

        Token take(String kind) {
            if (!is(kind)) {
                throw new Flaw(1, peek().place);
            }
            return tokens.get(i++);
        }

        int number(int least, int most) {
            Token t = take("number");
            BigInteger v = new BigInteger(t.text);
            if (v.compareTo(BigInteger.valueOf(least)) < 0 || v.compareTo(BigInteger.valueOf(most)) > 0) {
                throw new Flaw(2, t.place);
            }
            return v.intValue();
        }

        void line() {
            Token t = peek();
            switch (t.kind) {
                case "groove" -> {
                    few(told.grooves.size(), 12);
                    int seconds = number(1, 9);
                    told.grooves.add(new int[] {seconds, number(0, 9)});
                }
                case "scrat" -> {
                    few(told.scratches.size(), 4);
                    int place = peek().place;
                    int at = number(0, 11);
                    if (told.scratches.stream().anyMatch(s -> s.at == at)) {
                        throw new Flaw(3, place);
                    }
                    int back = number(0, 100);
                    int by = number(1, 9);
                    int on = number(0, 100 - back);
                    told.scratches.add(new Scratch(at, back, by, on, number(1, 9)));
                }
                case "guest" -> {
                    few(told.guests.size(), 4);
                    Token name = take("word");
                    if (told.guests.stream().anyMatch(g -> g.name.equals(name.text))) {
                        throw new Flaw(3, name.place);
                    }
                    int rounds = number(1, 9);
                    int far = number(0, 9);
                    told.guests.add(new Guest(name.text, rounds, far, number(0, 99)));
                }
                case "arm" -> once(9);
                case "price" -> once(99, 9);
                case "seed" -> once(99999);
                case "law" -> {
                    i++;
                    Token law = peek();
                    if (!Set.of("back", "wear", "worth").contains(law.kind)) {
                        throw new Flaw(1, law.place);
                    }
                    i++;
                    if (told.laws.containsKey(law.kind)) {
                        throw new Flaw(3, law.place);
                    }
                    told.laws.put(law.kind, ors());
                }
                default -> throw new Flaw(1, t.place);
            }
        }

        void few(int there, int most) {
            if (there == most) {
                throw new Flaw(2, peek().place);
            }
            i++;
        }

        void once(int... most) {
            Token t = peek();
            if (told.once.containsKey(t.kind)) {
                throw new Flaw(3, t.place);
            }
            i++;
            int[] values = new int[most.length];
            for (int k = 0; k < most.length; k++) {
                values[k] = number(0, most[k]);
            }
            told.once.put(t.kind, values);
        }

        Token knot() {
            told.knots++;
            if (told.knots > 64) {
                throw new Flaw(2, peek().place);
            }
            return tokens.get(i++);
        }

        Tree ors() {
            Tree left = ands();
            while (is("or")) {
                knot();
                left = two("or", left, ands());
            }
            return left;
        }

        Tree ands() {
            Tree left = nots();
            while (is("and")) {
                knot();
                left = two("and", left, nots());
            }
            return left;
        }

        Tree nots() {
            if (!is("not")) {
                return compared();
            }
            knot();
            Tree of = nots();
            return n -> of.value(n) == 0 ? 1 : 0;
        }

        Tree compared() {
            Tree left = sums();
            if (!Set.of("<", "<=", "=", "<>", ">=", ">").contains(peek().kind)) {
                return left;
            }
            String sign = knot().kind;
            return two(sign, left, sums());
        }

        Tree sums() {
            Tree left = products();
            while (is("+") || is("-")) {
                String sign = knot().kind;
                left = two(sign, left, products());
            }
            return left;
        }

        Tree products() {
            Tree left = prime();
            while (is("*") || is("/")) {
                String sign = knot().kind;
                left = two(sign, left, prime());
            }
            return left;
        }

        Tree prime() {
            if (is("(")) {
                if (open == 8) {
                    throw new Flaw(2, peek().place);
                }
                i++;
                open++;
                Tree inner = ors();
                take(")");
                open--;
                return inner;
            }
            if (is("number")) {
                knot();
                i--;
                long v = number(0, 9999);
                return n -> v;
            }
            if (NAMES.contains(peek().kind)) {
                String name = knot().kind;
                return n -> n.get(name);
            }
            throw new Flaw(1, peek().place);
        }

        static Tree two(String sign, Tree left, Tree right) {
            return n -> {
                BigInteger a = BigInteger.valueOf(left.value(n));
                BigInteger b = BigInteger.valueOf(right.value(n));
                int c = a.compareTo(b);
                BigInteger v = switch (sign) {
                    case "or" -> truth(a.signum() != 0 || b.signum() != 0);
                    case "and" -> truth(a.signum() != 0 && b.signum() != 0);
                    case "<" -> truth(c < 0);
                    case "<=" -> truth(c <= 0);
                    case "=" -> truth(c == 0);
                    case "<>" -> truth(c != 0);
                    case ">=" -> truth(c >= 0);
                    case ">" -> truth(c > 0);
                    case "+" -> a.add(b);
                    case "-" -> a.subtract(b);
                    case "*" -> a.multiply(b);
                    default -> {
                        if (b.signum() == 0) {
                            throw new Wrong();
                        }
                        yield a.divide(b);
                    }
                };
                if (v.abs().compareTo(BigInteger.TEN.pow(12)) > 0) {
                    throw new Wrong();
                }
                return v.longValueExact();
            };
        }

        static BigInteger truth(boolean b) {
            return b ? BigInteger.ONE : BigInteger.ZERO;
        }
    }

    /** The state that TURNS change. */
    static final class State implements Cloneable {
        int place;
        int turn;
        int seconds;
        int heard;
        int paid;
        int rounds;
        int weight;
        long number;
        int[] played = new int[12];
        int[] worn = new int[4];
        int[] ups = new int[4];

        State copy() {
            try {
                State s = (State) super.clone();
                s.played = played.clone();
                s.worn = worn.clone();
                s.ups = ups.clone();
                return s;
            } catch (CloneNotSupportedException e) {
                throw new IllegalStateException(e);
            }
        }
    }

    /** How TURNS go by. */
    static final class How {
        boolean drawn = false;
        boolean wears = true;
        List<Guest> guests;
        int gone = -1;
        int changed = -1;
        int changedBy = 0;
        boolean thrownBack = false;
    }

    record Taped(int turns, int groove, boolean is, int strikes) {
    }

    Told told = new Told();
    State now = first();
    List<Byte> bytes = new ArrayList<>();
    int fault = 0;
    int faultPlace = -1;
    List<Taped> taped = new ArrayList<>();
    int known = -1;
    State image = null;
    int imageKnown = -1;
    Deque<State> undos = new ArrayDeque<>();

    State first() {
        State s = new State();
        s.place = told.grooves.isEmpty() ? OUT : 0;
        s.weight = told.once("arm", 0, 3);
        s.number = told.once("seed", 0, 0);
        return s;
    }

    How asItGoes() {
        How how = new How();
        how.guests = told.guests;
        return how;
    }

    How alone() {
        How how = new How();
        how.guests = List.of();
        return how;
    }

    int feed(int... five) {
        if (bytes.size() + 20 > 700) {
            return -1;
        }
        for (int v : five) {
            for (byte b : BigInteger.valueOf(v & 0xffffffffL | 1L << 32).toByteArray()) {
                bytes.add(b);
            }
            bytes.remove(bytes.size() - 5);
        }
        return bytes.size();
    }

    int text(int n) {
        if (n < 0 || n > bytes.size()) {
            return -2;
        }
        byte[] all = new byte[n];
        for (int i = 0; i < n; i++) {
            all[i] = bytes.get(i);
        }
        bytes.clear();
        try {
            Told read = new Grammar(all).told;
            fault = 0;
            faultPlace = -1;
            told = read;
            now = first();
            taped.clear();
            known = -1;
            image = null;
            undos.clear();
            return told.lines;
        } catch (Flaw f) {
            fault = f.code;
            faultPlace = f.place;
            return -1;
        }
    }

    int fault(int what) {
        return what == 0 ? fault : what == 1 ? faultPlace : -1;
    }

    int named(int letters) {
        for (int g = 0; g < told.guests.size(); g++) {
            String name = (told.guests.get(g).name + "``````").substring(0, 6);
            int v = 0;
            for (char c : name.toCharArray()) {
                v = v * 32 + c - 96;
            }
            if (v == letters) {
                return g;
            }
        }
        return -1;
    }

    int groove(int g, int what) {
        if (g < 0 || g >= told.grooves.size()) {
            throw new IndexOutOfBoundsException();
        }
        return switch (what) {
            case 0, 1 -> told.grooves.get(g)[what];
            case 2 -> now.played[g];
            case 3 -> scratchAt(g);
            default -> throw new NoSuchElementException();
        };
    }

    int scratchAt(int g) {
        for (int i = 0; i < told.scratches.size(); i++) {
            if (told.scratches.get(i).at == g) {
                return i;
            }
        }
        return -1;
    }

    int scratch(int i, int what) {
        if (i < 0 || i >= told.scratches.size()) {
            return -1;
        }
        Scratch s = told.scratches.get(i);
        return switch (what) {
            case 0 -> s.at;
            case 1 -> s.back;
            case 2 -> s.by;
            case 3 -> s.on;
            case 4 -> s.onBy;
            case 5 -> now.worn[i];
            case 6 -> odds(now, i);
            default -> -1;
        };
    }

    int guest(int i, int what) {
        if (i < 0 || i >= told.guests.size()) {
            return -1;
        }
        Guest g = told.guests.get(i);
        return switch (what) {
            case 0 -> g.rounds;
            case 1 -> g.far;
            case 2 -> g.cost;
            case 3 -> now.ups[i];
            default -> -1;
        };
    }

    long law(int what, int which) {
        int there = what == 2 ? told.grooves.size() : told.scratches.size();
        if (what < 0 || what > 2 || which < 0 || which >= there) {
            return Long.MIN_VALUE;
        }
        return work(new String[] {"back", "wear", "worth"}[what], now, which);
    }

    long work(String law, State s, int which) {
        Map<String, Long> n = new HashMap<>();
        boolean worth = law.equals("worth");
        n.put("place", worth ? (long) which : told.scratches.get(which).at);
        n.put("odds", worth ? 0L : told.scratches.get(which).back);
        n.put("worn", worth ? 0L : s.worn[which]);
        n.put("heavy", (long) s.weight);
        n.put("round", (long) s.rounds);
        n.put("heard", (long) (worth ? s.played[which] : s.seconds));
        n.put("turn", (long) s.turn);
        if (!told.laws.containsKey(law)) {
            return Long.MIN_VALUE;
        }
        try {
            return told.laws.get(law).value(n);
        } catch (Wrong w) {
            return Long.MIN_VALUE;
        }
    }

    int lawOr(String law, State s, int which, int most, int otherwise) {
        long v = work(law, s, which);
        return (int) Math.max(0, Math.min(most, v == Long.MIN_VALUE ? otherwise : v));
    }

    int odds(State s, int i) {
        return lawOr("back", s, i, 100, told.scratches.get(i).back - 5 * s.worn[i] - 5 * s.weight);
    }

    static int draw(State s) {
        BigInteger v = BigInteger.valueOf(s.number).multiply(BigInteger.valueOf(1103515245)).add(BigInteger.valueOf(12345));
        s.number = v.mod(BigInteger.ONE.shiftLeft(31)).longValueExact();
        return (int) (s.number / 65536);
    }

    void move(State s, int to) {
        s.place = to >= told.grooves.size() ? OUT : Math.max(0, to);
    }

    void turn(State s, How how) {
        if (s.place != OUT) {
            int g = s.place;
            s.seconds += told.grooves.get(g)[0];
            s.heard += lawOr("worth", s, g, 99, told.grooves.get(g)[1]);
            s.played[g]++;
            int i = scratchAt(g);
            if (i < 0 || i == how.gone) {
                move(s, g + 1);
            } else {
                scratched(s, how, i);
            }
        }
        s.turn++;
    }

    void scratched(State s, How how, int i) {
        Scratch scratch = told.scratches.get(i);
        int back = odds(s, i);
        int on = Math.min(scratch.on, 100 - back);
        boolean goesBack = back >= 50;
        boolean goesOn = !goesBack && on >= 50;
        if (how.drawn) {
            int n = back == 0 && on == 0 ? 100 : draw(s) % 100;
            goesBack = n < back;
            goesOn = n >= back && n < back + on;
        }
        int wear = lawOr("wear", s, i, 9, 1);
        s.worn[i] += how.wears ? wear : 0;
        int by = how.changed == i ? how.changedBy : scratch.by;
        move(s, goesBack ? Math.max(0, s.place - by) : s.place + (goesOn ? scratch.onBy : 1));
        s.rounds = goesBack ? s.rounds + 1 : 0;
        if (!goesBack) {
            return;
        }
        how.thrownBack = true;
        for (int k = 0; k < how.guests.size(); k++) {
            Guest guest = how.guests.get(k);
            if (guest.rounds <= s.rounds) {
                if (guest.far != 0) {
                    move(s, s.place + guest.far + (how.drawn ? draw(s) % 3 - 1 : 0));
                }
                s.paid += guest.cost;
                s.ups[k]++;
                s.rounds = 0;
                return;
            }
        }
    }

    /** Plays till OUT, n TURNS at most: how many. */
    int play(State s, How how, int n) {
        for (int t = 0; t < n; t++) {
            if (s.place == OUT) {
                return t;
            }
            turn(s, how);
        }
        return n;
    }

    void remember() {
        undos.push(now.copy());
        if (undos.size() > 20) {
            undos.removeLast();
        }
    }

    boolean weigh(int w) {
        if (w < 0 || w > 9 || w == now.weight) {
            return false;
        }
        remember();
        now.weight = w;
        return true;
    }

    int nudge(int far) {
        if (far < -9 || far > 9 || far == 0 || now.place == OUT) {
            return -1;
        }
        remember();
        move(now, now.place + far);
        now.rounds = 0;
        return now.place;
    }

    boolean anew() {
        if (told.grooves.isEmpty() || now.place == 0) {
            return false;
        }
        remember();
        now.place = 0;
        now.rounds = 0;
        return true;
    }

    int go(int n) {
        if (n < 0 || n > 99 || now.turn + n > 9999) {
            return -1;
        }
        How how = asItGoes();
        how.drawn = true;
        for (int i = 0; i < n; i++) {
            turn(now, how);
            undos.clear();
        }
        return now.turn;
    }

    int out(int n, int what) {
        if (n < 0 || n > 200 || what < 0 || what > 3) {
            return -1;
        }
        State s = now.copy();
        int turns = play(s, asItGoes(), n);
        int[] all = {s.place == OUT ? turns : -2, s.seconds - now.seconds, s.heard - now.heard, s.paid - now.paid};
        return all[what];
    }

    int loop() {
        State s = now.copy();
        int bits = 0;
        for (int t = 0; t < 200; t++) {
            if (s.place == OUT) {
                return 0;
            }
            if (t >= 176) {
                bits |= 1 << s.place;
            }
            turn(s, alone());
        }
        return s.place == OUT ? 0 : bits;
    }

    long likely(int n, int groove, int what) {
        if (n < 0 || n > 7 || groove < 0 || groove > told.grooves.size() || what < 0 || what > 1) {
            return -1;
        }
        int target = groove == told.grooves.size() ? OUT : groove;
        BigInteger above = ways(now, n, target);
        BigInteger below = BigInteger.valueOf(100).pow(n);
        BigInteger common = above.gcd(below);
        return (what == 0 ? above : below).divide(common).longValueExact();
    }

    BigInteger ways(State s, int n, int target) {
        if (n == 0) {
            return s.place == target ? BigInteger.ONE : BigInteger.ZERO;
        }
        int i = s.place == OUT ? -1 : scratchAt(s.place);
        if (i < 0) {
            State t = s.copy();
            turn(t, alone());
            return ways(t, n - 1, target).multiply(BigInteger.valueOf(100));
        }
        State played = s.copy();
        played.seconds += told.grooves.get(s.place)[0];
        int back = odds(played, i);
        int on = Math.min(told.scratches.get(i).on, 100 - back);
        int wear = lawOr("wear", played, i, 9, 1);
        int[] odds = {back, on, 100 - back - on};
        int[] to = {Math.max(0, s.place - told.scratches.get(i).by), s.place + told.scratches.get(i).onBy, s.place + 1};
        BigInteger sum = BigInteger.ZERO;
        for (int way = 0; way < 3; way++) {
            if (odds[way] > 0) {
                State t = played.copy();
                t.worn[i] += wear;
                move(t, to[way]);
                t.rounds = way == 0 ? t.rounds + 1 : 0;
                t.turn++;
                sum = sum.add(ways(t, n - 1, target).multiply(BigInteger.valueOf(odds[way])));
            }
        }
        return sum;
    }

    int light(int what) {
        if (what != 0 && what != 1) {
            return -1;
        }
        int[] best = null;
        for (int w = 0; w < 10; w++) {
            State s = now.copy();
            s.weight = w;
            play(s, alone(), 200);
            best = better(best, s, w);
        }
        return best == null ? -2 : best[what];
    }

    int[] better(int[] best, State s, int which) {
        int seconds = s.seconds - now.seconds;
        return s.place == OUT && (best == null || seconds < best[1]) ? new int[] {which, seconds} : best;
    }

    int when(int far, int what) {
        if (far < 1 || far > 9 || what != 0 && what != 1) {
            return -1;
        }
        int[] best = null;
        for (int t = 0; t <= 20; t++) {
            State s = now.copy();
            play(s, alone(), t);
            if (s.place != OUT) {
                move(s, s.place + far);
                s.rounds = 0;
            }
            play(s, alone(), 200 - t);
            best = better(best, s, t);
        }
        return best == null ? -2 : best[what];
    }

    int plays() {
        State s = now.copy();
        for (int p = 1; p <= 60; p++) {
            s.place = told.grooves.isEmpty() ? OUT : 0;
            s.rounds = 0;
            How how = alone();
            play(s, how, 200);
            if (s.place == OUT && !how.thrownBack) {
                return p;
            }
        }
        return -2;
    }

    int missed(int far) {
        if (far < 1 || far > 9 || now.place == OUT) {
            return -1;
        }
        State s = now.copy();
        move(s, s.place + far);
        int to = s.place == OUT ? told.grooves.size() : s.place;
        return told.grooves.subList(now.place + 1, to).stream().mapToInt(g -> g[1]).sum();
    }

    List<Integer> restsOf(int one, int other) {
        int n = told.guests.size();
        if (one < 0 || one >= n || other < 0 || other >= n || one == other || now.place == OUT) {
            return null;
        }
        Guest[] g = {told.guests.get(one), told.guests.get(other)};
        int[][][] lost = new int[2][2][2];
        for (int a = 0; a < 2; a++) {
            for (int b = 0; b < 2; b++) {
                State s = now.copy();
                int far = Math.max(a == 1 ? g[0].far : -1, b == 1 ? g[1].far : -1);
                if (far >= 0) {
                    move(s, s.place + far);
                    s.rounds = 0;
                }
                play(s, alone(), 200);
                int seconds = s.place == OUT ? Math.min(99, s.seconds - now.seconds) : 99;
                lost[a][b] = new int[] {seconds + a * g[0].cost, seconds + b * g[1].cost};
            }
        }
        List<Integer> rests = new ArrayList<>();
        for (int a = 0; a < 2; a++) {
            for (int b = 0; b < 2; b++) {
                if (lost[a][b][0] <= lost[1 - a][b][0] && lost[a][b][1] <= lost[a][1 - b][1]) {
                    rests.add(10 * a + b);
                }
            }
        }
        return rests;
    }

    int rests(int one, int other) {
        List<Integer> all = restsOf(one, other);
        return all == null ? -1 : all.size();
    }

    int rest(int one, int other, int k) {
        List<Integer> all = restsOf(one, other);
        if (all == null || k < 0) {
            return -1;
        }
        return k < all.size() ? all.get(k) : -2;
    }

    int needle(int n) {
        if (n < 1 || n > 99) {
            return -1;
        }
        int best = 1;
        long bestSum = sumFor(1);
        for (int k = 2; k <= n; k++) {
            if (sumFor(k) * best < bestSum * k) {
                best = k;
                bestSum = sumFor(k);
            }
        }
        return best;
    }

    long sumFor(int turns) {
        long sum = told.once("price", 0, 0);
        for (int i = 0; i < turns; i++) {
            sum += (long) i * told.once("price", 1, 0);
        }
        return sum;
    }

    int most() {
        int best = -1;
        for (int g = told.grooves.size() - 1; g >= 0; g--) {
            best = best < 0 || now.played[g] >= now.played[best] ? g : best;
        }
        return best;
    }

    int reaches(int groove, int n) {
        if (groove < 0 || groove >= told.grooves.size() || n < 1 || n > 99) {
            return -1;
        }
        State s = now.copy();
        for (int t = 1; t <= n; t++) {
            int ahead = s.played[groove];
            turn(s, asItGoes());
            if (s.played[groove] > ahead) {
                return t;
            }
        }
        return -2;
    }

    int bestBit(int k) {
        if (k < 1 || k > 12) {
            return -1;
        }
        int best = -2;
        int most = -1;
        for (int g = 0; g + k <= told.grooves.size(); g++) {
            int sum = told.grooves.subList(g, g + k).stream().mapToInt(x -> x[1]).sum();
            if (sum > most) {
                most = sum;
                best = g;
            }
        }
        return best;
    }

    int rule(int rounds, int far, int n) {
        if (rounds < 1 || rounds > 9 || far < 1 || far > 9 || n < 0 || n > 200) {
            return -1;
        }
        State s = now.copy();
        How how = new How();
        how.guests = List.of(new Guest("one", rounds, far, 0));
        play(s, how, n);
        return s.heard - now.heard;
    }

    int bestRule(int n, int what) {
        if (n < 0 || n > 60 || what < 0 || what > 2) {
            return -1;
        }
        int[] best = {1, 1, rule(1, 1, n)};
        for (int i = 0; i < 81; i++) {
            int heard = rule(i / 9 + 1, i % 9 + 1, n);
            if (heard > best[2]) {
                best = new int[] {i / 9 + 1, i % 9 + 1, heard};
            }
        }
        return best[what];
    }

    int gets(int guest, int n) {
        if (guest < 0 || guest >= told.guests.size() || n < 0 || n > 200) {
            return -1;
        }
        State s = now.copy();
        play(s, asItGoes(), n);
        return s.ups[guest] - now.ups[guest];
    }

    int tames(int i) {
        if (i < 0 || i >= told.scratches.size()) {
            return -1;
        }
        State s = now.copy();
        int times = 0;
        while (odds(s, i) >= 50) {
            s.worn[i] += lawOr("wear", s, i, 9, 1);
            times++;
            if (times > 99) {
                return -2;
            }
        }
        return times;
    }

    int tape(int turns, int groove, boolean is) {
        if (turns < 1 || turns > 60 || groove < 0 || groove >= told.grooves.size() || taped.size() == 24) {
            return -1;
        }
        taped.add(new Taped(turns, groove, is, -1));
        return taped.size() - 1;
    }

    int strike(int i) {
        if (i < 0 || i >= taped.size() || taped.size() == 24) {
            return -1;
        }
        taped.add(new Taped(0, 0, false, i));
        return taped.size() - 1;
    }

    boolean known(int n) {
        if (n < -1 || n > taped.size()) {
            return false;
        }
        known = n;
        return true;
    }

    int knownBy() {
        return known < 0 ? taped.size() : known;
    }

    boolean counts(int i) {
        for (int j = i + 1; j < knownBy(); j++) {
            if (taped.get(j).strikes == i && counts(j)) {
                return false;
            }
        }
        return true;
    }

    int threw(int i) {
        if (i < 0 || i >= told.scratches.size()) {
            return -1;
        }
        int bits = 0;
        for (int by = 1; by <= 9; by++) {
            boolean all = true;
            for (int k = 0; k < knownBy(); k++) {
                Taped t = taped.get(k);
                if (t.strikes < 0 && counts(k)) {
                    State s = first();
                    How how = alone();
                    how.changed = i;
                    how.changedBy = by;
                    play(s, how, t.turns);
                    all &= (s.place == t.groove) == t.is;
                }
            }
            bits |= all ? 1 << by : 0;
        }
        return bits;
    }

    int chance(int seed, int n) {
        if (seed < 0 || n < 1 || n > 200) {
            return -1;
        }
        long number = seed;
        int outs = 0;
        for (int i = 0; i < 10; i++) {
            State s = now.copy();
            s.number = number;
            How how = asItGoes();
            how.drawn = true;
            play(s, how, n);
            number = s.number;
            outs += s.place == OUT ? 1 : 0;
        }
        return outs;
    }

    int tried(int what, int i, int n) {
        boolean fits = what == 2 ? i >= 0 && i < told.scratches.size() : i == 0;
        if (what < 0 || what > 4 || n < 0 || n > 200 || !fits) {
            return -1;
        }
        State s = now.copy();
        How how = what == 0 ? alone() : asItGoes();
        how.wears = what != 1;
        how.gone = what == 2 ? i : -1;
        s.weight = what == 3 ? 9 : what == 4 ? 0 : s.weight;
        play(s, how, n);
        return s.heard - now.heard;
    }

    int undo() {
        if (undos.isEmpty()) {
            return -1;
        }
        now = undos.pop();
        return undos.size();
    }

    int keep() {
        image = now.copy();
        imageKnown = known;
        return now.turn;
    }

    int back() {
        if (image == null) {
            return -1;
        }
        now = image.copy();
        known = imageKnown;
        undos.clear();
        return now.turn;
    }

    int count(int what) {
        int[] all = {told.grooves.size(), told.scratches.size(), told.guests.size(), told.knots, now.turn, now.place,
            now.seconds, now.heard, now.paid, now.rounds, now.weight, taped.size(), knownBy(), undos.size()};
        return what < 0 || what >= all.length ? -1 : all[what];
    }
}

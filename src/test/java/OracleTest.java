import java.util.Random;

/** Random runs of calls, fixed by their seeds, on the class and on the oracle; each answer has to be the same. */
final class OracleTest {
    private static final int[] WILD = {-1, Integer.MIN_VALUE, Integer.MAX_VALUE, 10, 30, 900, 100, -2, 4, 61, 1024};
    private final Random random;
    private final Check check;
    private final NeverInLine x = new NeverInLine();
    private final Oracle o = new Oracle();
    private final int[] spots;
    private final String run;

    private OracleTest(long seed, Check check) {
        this.check = check;
        run = "seed " + seed + ": ";
        random = new Random(seed);
        // Few spots in few rows, so that many are in line; some runs use the whole plain.
        spots = new int[8 + random.nextInt(30)];
        int step = 1 + random.nextInt(5);
        int left = random.nextInt(30 - 4 * step);
        int top = random.nextInt(30 - 4 * step);
        boolean wide = random.nextInt(3) == 0;
        for (int i = 0; i < spots.length; i++) {
            spots[i] = wide ? random.nextInt(900) : 30 * (top + step * random.nextInt(5)) + left + step * random.nextInt(5);
        }
    }

    public static void main(String[] args) {
        int from = args.length > 1 ? Integer.parseInt(args[0]) : 0;
        int to = args.length > 1 ? Integer.parseInt(args[1]) : 220;
        Check check = new Check("oracle");
        for (int seed = from; seed < to; seed++) {
            new OracleTest(seed, check).play();
        }
        check.end();
    }

    private void play() {
        int towers = random.nextInt(12);
        for (int i = 0; i < towers; i++) {
            tower();
        }
        int roads = random.nextInt(5);
        for (int i = 0; i < roads; i++) {
            road();
        }
        int corners = random.nextInt(8);
        for (int i = 0; i < corners; i++) {
            corner();
        }
        int forests = random.nextInt(4);
        for (int i = 0; i < forests; i++) {
            forest();
        }
        for (int i = 0; i < 60; i++) {
            call();
        }
    }

    private int spot() {
        int luck = random.nextInt(20);
        return luck == 0 ? wild() : luck < 4 ? random.nextInt(900) : spots[random.nextInt(spots.length)];
    }

    private int wild() {
        return WILD[random.nextInt(WILD.length)];
    }

    /** A number below n, now and then a wild one. */
    private int upTo(int n) {
        return random.nextInt(25) == 0 ? wild() : random.nextInt(n);
    }

    private void due(String call, long got, long want) {
        check.due(run + call, got, want);
    }

    private void tower() {
        int p = spot();
        int hp = random.nextInt(15) == 0 ? upTo(12000) : 1000 * random.nextInt(10) + 10 * random.nextInt(100) + random.nextInt(2);
        due("tower " + p + " " + hp, x.tower(p, hp), o.tower(p, hp));
    }

    private void road() {
        int a = spot();
        int b = spot();
        due("road " + a + " " + b, x.road(a, b), o.road(a, b));
    }

    private void corner() {
        int r = upTo(4);
        int p = spot();
        due("corner " + r + " " + p, x.corner(r, p), o.corner(r, p));
    }

    private void forest() {
        int a = spot();
        int b = spot();
        due("forest " + a + " " + b, x.forest(a, b), o.forest(a, b));
    }

    private void call() {
        switch (random.nextInt(32)) {
            case 0 -> tower();
            case 1 -> corner();
            case 2 -> forest();
            case 3 -> road();
            case 4, 5 -> newLaw();
            case 6 -> mend();
            case 7 -> tellAll();
            case 8, 9 -> lines();
            case 10, 11, 12 -> guilty();
            case 13, 14 -> guilts();
            case 15, 16 -> seen();
            case 17, 18 -> free();
            case 19 -> years();
            case 20 -> go();
            case 21, 22 -> moved();
            case 23 -> bent();
            case 24 -> newly();
            case 25 -> game();
            case 26 -> sight();
            case 27 -> fits();
            case 28 -> backAndForth();
            case 29 -> acts();
            case 30 -> shelves();
            default -> towersFromRow();
        }
    }

    private void newLaw() {
        String text = text();
        for (int i = 0; i < text.length(); i++) {
            due("feed " + text, x.feed(text.charAt(i)), o.feed(text.charAt(i)));
        }
        due("law " + text, x.law(), o.law());
        due("guilts by " + text, x.guilts(-1), o.guilts(-1));
    }

    private String text() {
        StringBuilder text = new StringBuilder();
        int lines = 1 + random.nextInt(3);
        for (int i = 0; i < lines; i++) {
            text.append(i == 0 ? "" : ";").append(random.nextBoolean() ? expression(0) + "?" : "").append(expression(0));
        }
        if (random.nextInt(4) == 0) {
            int at = random.nextInt(text.length() + 1);
            char c = random.nextInt(5) == 0 ? (char) random.nextInt(256) : "|&<=>+-*/%!()?;0a".charAt(random.nextInt(17));
            text.insert(at, c);
        }
        if (random.nextInt(8) == 0) {
            text.setLength(random.nextInt(text.length() + 1));
        }
        return text.length() > 125 ? text.substring(0, 125) : text.toString();
    }

    private String expression(int depth) {
        StringBuilder e = new StringBuilder(operand(depth));
        int more = random.nextInt(depth > 2 ? 2 : 4);
        boolean compared = false;
        for (int i = 0; i < more; i++) {
            char sign = "|&<=>+-*/%".charAt(random.nextInt(10));
            boolean compares = "<=>".indexOf(sign) >= 0;
            if (compares && compared && random.nextInt(20) != 0) {
                continue;
            }
            compared = compares || compared && sign != '|' && sign != '&';
            e.append(sign).append(operand(depth));
        }
        return e.toString();
    }

    private String operand(int depth) {
        int luck = random.nextInt(10);
        if (luck < 5) {
            return "" + "abokmn".charAt(random.nextInt(6));
        }
        if (luck < 8 || depth > 5) {
            return "" + random.nextInt(random.nextInt(10) == 0 ? 12000 : 5);
        }
        return luck == 8 ? "(" + expression(depth + 1) + ")" : (random.nextBoolean() ? "!" : "-") + operand(depth + 1);
    }

    private void mend() {
        int many = random.nextInt(30) == 0 ? 45 : 1 + random.nextInt(3);
        for (int i = 0; i < many; i++) {
            int t = upTo(10);
            int what = upTo(3);
            int v = upTo(what == 0 ? 10 : what == 1 ? 100 : 2);
            due("mend " + t + " " + what + " " + v, x.mend(t, what, v), o.mend(t, what, v));
        }
    }

    private void backAndForth() {
        int many = random.nextInt(10) == 0 ? 45 : 1 + random.nextInt(4);
        for (int i = 0; i < many; i++) {
            due("undo", x.undo(), o.undo());
        }
        many = random.nextInt(many + 2);
        for (int i = 0; i < many; i++) {
            due("redo", x.redo(), o.redo());
        }
        tellAll();
    }

    private void tellAll() {
        for (int number = -1; number < 11; number++) {
            for (int what = -1; what < 27; what++) {
                due("of " + number + " " + what, x.of(number, what), o.of(number, what));
            }
        }
        for (int what = -1; what < 9; what++) {
            due("count " + what, x.count(what), o.count(what));
        }
    }

    private int pair() {
        return random.nextInt(20) == 0 ? wild() : random.nextInt(100);
    }

    private void lines() {
        int ab = pair();
        int k = upTo(5);
        for (int i = 0; i < 10; i++) {
            int p = spot();
            due("line " + ab + " " + p + " " + k, x.line(ab, p, k), o.line(ab, p, k));
        }
    }

    private void guilty() {
        int ri = 10 * random.nextInt(5) + random.nextInt(6);
        for (int i = 0; i < 10; i++) {
            int ab = pair();
            due("guilty " + ri + " " + ab + " 0", x.guilty(ri, ab, 0), o.guilty(ri, ab, 0));
            due("guilty " + ri + " " + ab + " 1", x.guilty(ri, ab, 1), o.guilty(ri, ab, 1));
        }
        int odd = wild();
        due("guilty odd", x.guilty(odd, 1, 0), o.guilty(odd, 1, 0));
        due("guilty odd part", x.guilty(0, 1, odd), o.guilty(0, 1, odd));
    }

    private void guilts() {
        for (int r = -2; r < 5; r++) {
            due("guilts " + r, x.guilts(r), o.guilts(r));
            due("which " + r, x.which(r), o.which(r));
        }
        int t = upTo(10);
        due("led " + t, x.led(t), o.led(t));
    }

    private void seen() {
        for (int i = 0; i < 10; i++) {
            int p = spot();
            due("seen " + p, x.seen(p), o.seen(p));
        }
    }

    private void free() {
        int y = random.nextBoolean() ? upTo(30) : Math.floorMod(spot() / 30, 30);
        int h = upTo(10);
        due("free " + y + " " + h, x.free(y, h, 0), o.free(y, h, 0));
        due("first free " + y + " " + h, x.free(y, h, 1), o.free(y, h, 1));
        due("free odd", x.free(y, h, 2), o.free(y, h, 2));
    }

    private void years() {
        int h = upTo(10);
        int what = upTo(2);
        due("years " + h + " " + what, x.years(h, what), o.years(h, what));
        due("guilts after years", x.guilts(-1), o.guilts(-1));
    }

    private void go() {
        due("fewest", x.fewest(), o.fewest());
        int what = upTo(2);
        due("cheapest " + what, x.cheapest(what), o.cheapest(what));
    }

    private void moved() {
        for (int i = 0; i < 3; i++) {
            int t = upTo(10);
            int xy = random.nextInt(10) == 0 ? upTo(2000) : 100 * (5 + random.nextInt(9)) + 5 + random.nextInt(9);
            due("moved " + t + " " + xy, x.moved(t, xy), o.moved(t, xy));
        }
    }

    private void bent() {
        int ri = random.nextInt(12) == 0 ? wild() : 10 * random.nextInt(4) + random.nextInt(3);
        int what = upTo(2);
        due("bent " + ri + " " + what, x.bent(ri, what), o.bent(ri, what));
    }

    private void newly() {
        int a = spot();
        int b = spot();
        due("newly " + a + " " + b, x.newly(a, b), o.newly(a, b));
        due("newly " + a + " " + a, x.newly(a, a), o.newly(a, a));
    }

    private void game() {
        int p = spot();
        boolean large = random.nextInt(4) == 0 && x.count(0) > 4;
        int sh = random.nextInt(15) == 0 ? wild() : (large ? 30 : 20) + random.nextInt(10);
        due("game " + p + " " + sh, x.game(p, sh, 0), o.game(p, sh, 0));
        due("game first " + p + " " + sh, x.game(p, sh, 1), o.game(p, sh, 1));
    }

    private void sight() {
        int p = spot();
        int bits = random.nextInt(4) == 0 ? upTo(1024) : Math.max(0, x.seen(p));
        due("sight " + p + " " + bits, x.sight(p, bits), o.sight(p, bits));
    }

    private void fits() {
        int t = upTo(10);
        due("fits " + t, x.fits(t, 0), o.fits(t, 0));
        due("fits first " + t, x.fits(t, 1), o.fits(t, 1));
    }

    private void acts() {
        int many = random.nextInt(12) == 0 ? 55 : random.nextInt(5);
        for (int i = 0; i < many; i++) {
            int kind = upTo(8);
            due("body " + kind, x.body(kind), o.acts.body(kind));
        }
        for (int i = 0; i < 6; i++) {
            int body = random.nextInt(5) == 0 ? upTo(50) : random.nextInt(Math.max(1, x.count(6)));
            int act = upTo(4);
            int v = random.nextBoolean() ? random.nextInt() : random.nextInt(20) - 10;
            due("act " + body + " " + act + " " + v, x.act(body, act, v), o.acts.act(body, act, v));
            due("ran", x.count(7), o.count(7));
            for (int j = -1; j < 26; j++) {
                due("trace " + j, x.trace(j), o.acts.trace(j));
            }
        }
    }

    private void shelves() {
        for (int i = 0; i < 30; i++) {
            int s = upTo(6);
            int other = upTo(6);
            int at = upTo(12);
            long v = random.nextBoolean() ? random.nextLong() : random.nextInt(900);
            switch (random.nextInt(8)) {
                case 0 -> {
                    int sort = upTo(5);
                    int n = random.nextInt(6) == 0 ? upTo(64) : random.nextInt(12);
                    due("row " + s + " " + sort + " " + n, x.row(s, sort, n), o.acts.row(s, sort, n));
                }
                case 1 -> due("keep " + s + " " + (at - 1), x.keep(s, at - 1), o.acts.keep(s, at - 1));
                case 2 -> {
                    int j = upTo(12);
                    int n = upTo(8);
                    due("shift " + s + " " + at + " " + other + " " + j + " " + n, x.shift(s, at, other, j, n), o.acts.shift(s, at, other, j, n));
                }
                case 3 -> due("taken " + s + " " + other, x.taken(s, other), o.acts.taken(s, other));
                case 4 -> due("element " + s + " " + at, x.element(s, at), s < 0 || s > 5 ? Long.MIN_VALUE : o.acts.element(s, at));
                default -> due("put " + s + " " + at + " " + v, x.put(s, at, v), o.acts.put(s, at, v));
            }
        }
        for (int s = 0; s < 6; s++) {
            for (int i = -1; i < 61; i++) {
                due("element " + s + " " + i, x.element(s, i), o.acts.element(s, i));
            }
        }
    }

    private void towersFromRow() {
        int s = random.nextInt(6);
        if (random.nextInt(4) != 0) {
            int size = random.nextInt(20);
            due("row", x.row(s, 1, size), o.acts.row(s, 1, size));
            for (int i = 0; i + 2 < size; i += 3) {
                int p = spot();
                int h = upTo(10);
                int c = upTo(100);
                due("put", x.put(s, i, p), o.acts.put(s, i, p));
                due("put", x.put(s, i + 1, h), o.acts.put(s, i + 1, h));
                due("put", x.put(s, i + 2, c), o.acts.put(s, i + 2, c));
            }
        }
        int i = random.nextInt(3) == 0 ? upTo(8) : 0;
        int n = random.nextInt(6) == 0 ? upTo(12) : 1 + random.nextInt(4);
        due("towers " + s + " " + i + " " + n, x.towers(s, i, n), o.towers(s, i, n));
        tellAll();
    }
}

import java.util.Arrays;

/** A plain of towers, roads and forests, on which no road may see two towers in line. */
public final class NeverInLine {
    public static final int BAD = -1, NOT = -2, FULL = -3, STATE = -5, VOID = -2000000000;

    private static final int LACKS = -11, OTHER_KIND = -12, NO_PLACE = -13, BELOW_ZERO = -14;
    private static final int WIDTH = 30, POINTS = 900;
    private static final int MOST_TOWERS = 10, MOST_ROADS = 4, MOST_CORNERS = 6, MOST_FORESTS = 8;
    private static final int MOST_SIGHTS = 10, MOST_BODIES = 50, MOST_SHELVES = 6;
    private static final int FAULT_BASE = -100, ENDLESS = 1000000;
    private static final long NO_ELEMENT = -9223372036854775808L;

    private final Law rule = new Law();
    private final Reader reader = new Reader();
    private final Plain plain = new Plain(rule);
    private final Planner planner = new Planner(plain);
    private final Game match = new Game(plain);
    private final Walker walker = new Walker(plain);
    private final History history = new History(plain);
    private final Ways ways = new Ways();
    private final Shelf[] shelves = new Shelf[MOST_SHELVES];

    public NeverInLine() {
        for (int i = 0; i < MOST_SHELVES; i++) {
            shelves[i] = new Shelf();
        }
    }

    // ---- the plain

    public int tower(int point, int hp) {
        if (hp < 0) {
            return BAD;
        }
        return plain.build(point, hp / 1000, hp / 10 % 100, hp % 10);
    }

    public int towers(int shelf, int i, int n) {
        if (!isShelf(shelf) || n < 1 || n > MOST_TOWERS) {
            return BAD;
        }
        Shelf held = shelves[shelf];
        if (held.isEmpty()) {
            return 0;
        }
        if (!held.isRowOf(Shelf.SHORTS)) {
            return OTHER_KIND;
        }
        int came = 0;
        for (int at = i; came < n && held.spans(at, 3); at += 3) {
            int built = plain.build((int) held.cells[at], (int) held.cells[at + 1], (int) held.cells[at + 2], 0);
            if (built < 0) {
                return came;
            }
            came++;
        }
        return came;
    }

    public int road(int a, int b) {
        if (!isPoint(a) || !isPoint(b) || a == b) {
            return BAD;
        }
        return plain.addRoad(a, b);
    }

    public int corner(int road, int point) {
        if (!plain.isRoad(road) || !isPoint(point) || point == plain.cornerAt(road, plain.turns[road] - 1)) {
            return BAD;
        }
        return plain.addCorner(road, point);
    }

    public int forest(int a, int b) {
        if (!isPoint(a) || !isPoint(b) || a == b) {
            return BAD;
        }
        return plain.addForest(a, b);
    }

    public int feed(int letter) {
        if (letter < 0 || letter > 255) {
            return BAD;
        }
        return reader.take(letter);
    }

    public int law() {
        int fault = reader.read();
        if (fault < 0) {
            rule.become(reader.draft, reader.drafted);
            plain.forgetVerdicts();
        }
        reader.empty();
        return fault < 0 ? 1 : FAULT_BASE - fault;
    }

    public int mend(int tower, int what, int v) {
        if (!plain.isTower(tower) || what < 0 || what > 2 || v < 0 || v > plain.most(what)) {
            return BAD;
        }
        int was = plain.trait(tower, what);
        if (was != v) {
            history.note(tower, what, was, v);
            plain.setTrait(tower, what, v);
        }
        return was;
    }

    public int of(int number, int what) {
        if (what >= 0 && what <= 3) {
            return plain.isTower(number) ? towerTells(number, what) : BAD;
        }
        if (!plain.isRoad(number)) {
            return BAD;
        }
        if (what == 10) {
            return plain.turns[number];
        }
        if (what < 20 || what >= 20 + plain.turns[number]) {
            return BAD;
        }
        return plain.cornerAt(number, what - 20);
    }

    private int towerTells(int tower, int what) {
        return what == 0 ? plain.pointOf(tower) : plain.trait(tower, what - 1);
    }

    // ---- lines

    public int line(int ab, int point, int k) {
        if (!isPair(ab) || !isPoint(point) || k < 0 || k > MOST_ROADS) {
            return BAD;
        }
        return plain.areInLine(point, k, ab / 10, ab % 10) ? 1 : 0;
    }

    public int guilty(int ri, int ab, int part) {
        if (!isStretch(ri) || !isPair(ab) || !isChoice(part, 1)) {
            return BAD;
        }
        int road = ri / 10;
        int i = ri % 10;
        int guilt = plain.guiltBetween(plain.cornerAt(road, i), plain.cornerAt(road, i + 1), road, ab / 10, ab % 10);
        if (guilt == Plain.INNOCENT) {
            return NOT;
        }
        int above = guilt / Plain.SHARE;
        int below = guilt % Plain.SHARE;
        return (part == 0 ? above : below) / greatestDivisor(above, below);
    }

    public int guilts(int road) {
        if (road == -1) {
            return plain.allGuilts();
        }
        return plain.isRoad(road) ? plain.roadGuilts(road) : BAD;
    }

    public int which(int what) {
        if (!isChoice(what, 3)) {
            return BAD;
        }
        for (int r = 0; r < plain.roads; r++) {
            for (int i = 0; i + 1 < plain.turns[r]; i++) {
                int pair = plain.firstGuiltyPair(r, i);
                if (pair >= 0) {
                    return partOf(what, r, i, pair);
                }
            }
        }
        return NOT;
    }

    private static int partOf(int what, int road, int stretch, int pair) {
        switch (what) {
            case 0:
                return road;
            case 1:
                return stretch;
            case 2:
                return pair / 10;
            default:
                return pair % 10;
        }
    }

    public int led(int tower) {
        return plain.isTower(tower) ? plain.guiltsWith(tower) : BAD;
    }

    public int seen(int point) {
        return isPoint(point) ? plain.seenFrom(point, -1) : BAD;
    }

    // ---- where, who, how

    public int free(int y, int height, int what) {
        if (y < 0 || y >= WIDTH || !isHeight(height) || !isChoice(what, 1)) {
            return BAD;
        }
        if (plain.standing >= MOST_TOWERS) {
            return STATE;
        }
        return planner.freeInRow(y, height, what == 1);
    }

    public int years(int height, int what) {
        if (!isHeight(height) || !isChoice(what, 1)) {
            return BAD;
        }
        return planner.settle(height, what == 1);
    }

    public int fewest() {
        planner.findQuarrels();
        return planner.leastToGo(false);
    }

    public int cheapest(int what) {
        if (!isChoice(what, 1)) {
            return BAD;
        }
        planner.findQuarrels();
        int gone = planner.leastToGo(true);
        return what == 0 ? gone : planner.priceOf(gone);
    }

    public int moved(int tower, int xy) {
        if (!plain.isTower(tower) || xy < 0 || xy / 100 > 18 || xy % 100 > 18) {
            return BAD;
        }
        int from = plain.pointOf(tower);
        int to = planner.target(tower, xy / 100 - 9, xy % 100 - 9);
        if (to < 0) {
            return NOT;
        }
        plain.place(tower, to);
        int guilts = plain.allGuilts();
        plain.place(tower, from);
        return guilts;
    }

    public int bent(int ri, int what) {
        if (!isStretch(ri) || !isChoice(what, 1)) {
            return BAD;
        }
        if (plain.turns[ri / 10] >= MOST_CORNERS) {
            return STATE;
        }
        int point = planner.bestBend(ri / 10, ri % 10);
        return what == 0 ? point : plain.allGuilts() - planner.savedByBend;
    }

    public int newly(int a, int b) {
        if (!isPoint(a) || !isPoint(b)) {
            return BAD;
        }
        return planner.stepsBetween(a, b);
    }

    public int game(int point, int sh, int what) {
        if (!isPoint(point) || sh < 20 || sh > 39 || !isChoice(what, 1)) {
            return BAD;
        }
        int side = sh / 10;
        if (point % WIDTH + side > WIDTH || point / WIDTH + side > WIDTH) {
            return BAD;
        }
        match.layOut(point, side, sh % 10);
        match.findClashes();
        int winner = match.firstWinner();
        if (what == 0) {
            return winner >= 0 ? 1 : 0;
        }
        return winner >= 0 ? winner : NOT;
    }

    // ---- sights

    public int sight(int point, int towers) {
        if (!isPoint(point) || towers < 0 || towers > 1023) {
            return BAD;
        }
        return walker.tell(point, towers);
    }

    public int fits(int tower, int what) {
        if (!plain.isTower(tower) || !isChoice(what, 1)) {
            return BAD;
        }
        return walker.placesFor(tower, what == 1);
    }

    public int undo() {
        return history.back();
    }

    public int redo() {
        return history.forth();
    }

    // ---- acts, shelves

    public int body(int kind) {
        return Ways.isKind(kind) ? ways.add(kind) : BAD;
    }

    public int act(int body, int act, int x) {
        return ways.perform(body, act, x);
    }

    public int trace(int i) {
        return ways.traced(i);
    }

    public int keep(int shelf, int body) {
        if (!isShelf(shelf) || (body != -1 && !ways.isBody(body))) {
            return BAD;
        }
        shelves[shelf].holdBody(body);
        return 1;
    }

    public int row(int shelf, int sort, int n) {
        if (!isShelf(shelf) || sort < 0 || sort > Shelf.BOOLEANS || n > Shelf.MOST_CELLS) {
            return BAD;
        }
        if (n < 0) {
            return BELOW_ZERO;
        }
        shelves[shelf].holdRow(sort, n);
        return 1;
    }

    public int put(int shelf, int i, long v) {
        int refusal = cellRefusal(shelf, i);
        if (refusal != 0) {
            return refusal;
        }
        shelves[shelf].setCell(i, v);
        return 1;
    }

    public long element(int shelf, int i) {
        return cellRefusal(shelf, i) != 0 ? NO_ELEMENT : shelves[shelf].cells[i];
    }

    public int shift(int shelf, int i, int other, int j, int n) {
        if (!isShelf(shelf) || !isShelf(other)) {
            return BAD;
        }
        Shelf from = shelves[shelf];
        Shelf to = shelves[other];
        if (from.isEmpty() || to.isEmpty()) {
            return LACKS;
        }
        if (!from.isRow() || !to.isRowOf(from.sort)) {
            return OTHER_KIND;
        }
        if (!from.spans(i, n) || !to.spans(j, n)) {
            return NO_PLACE;
        }
        System.arraycopy(from.cells, i, to.cells, j, n);
        return n;
    }

    public int taken(int shelf, int k) {
        if (!isShelf(shelf) || !Ways.isKind(k)) {
            return BAD;
        }
        Shelf held = shelves[shelf];
        if (held.isEmpty()) {
            return LACKS;
        }
        if (held.isRow()) {
            return OTHER_KIND;
        }
        int kind = ways.kindOf(held.body);
        return Ways.isUnder(kind, k) ? kind : OTHER_KIND;
    }

    public int count(int what) {
        switch (what) {
            case 0:
                return plain.standing;
            case 1:
                return plain.roads;
            case 2:
                return plain.forests;
            case 3:
                return walker.told;
            case 4:
                return reader.fed;
            case 5:
                return history.past;
            case 6:
                return ways.bodies;
            case 7:
                return ways.ran;
            default:
                return BAD;
        }
    }

    // ---- what is as said

    private static boolean isPoint(int point) {
        return point >= 0 && point < POINTS;
    }

    private static boolean isHeight(int height) {
        return height >= 0 && height <= 9;
    }

    private static boolean isChoice(int what, int last) {
        return what >= 0 && what <= last;
    }

    private static boolean isShelf(int shelf) {
        return shelf >= 0 && shelf < MOST_SHELVES;
    }

    private boolean isPair(int ab) {
        return ab >= 0 && ab / 10 != ab % 10 && plain.isTower(ab / 10) && plain.isTower(ab % 10);
    }

    private boolean isStretch(int ri) {
        return ri >= 0 && plain.isRoad(ri / 10) && ri % 10 + 1 < plain.turns[ri / 10];
    }

    /** Of two numbers from 0 on; at least 1. */
    private static int greatestDivisor(int a, int b) {
        int rest = a;
        int divisor = b;
        for (int steps = 0; rest != 0 && steps < 64; steps++) {
            int left = divisor % rest;
            divisor = rest;
            rest = left;
        }
        return Math.max(divisor, 1);
    }

    /** Why there is no cell i on a shelf; 0 if there is one. */
    private int cellRefusal(int shelf, int i) {
        if (!isShelf(shelf)) {
            return BAD;
        }
        Shelf held = shelves[shelf];
        if (held.isEmpty()) {
            return LACKS;
        }
        if (!held.isRow()) {
            return OTHER_KIND;
        }
        return held.spans(i, 1) ? 0 : NO_PLACE;
    }

    /** The law as a program for a stack: numbers push themselves, the rest are signs below 0. */
    private static final class Law {
        // Names a b o k n m are -1 .. -6; a sign of the text is SIGN less its byte.
        static final int SIGN = -100, MINUS = -400, GUARD = SIGN - '?', END = SIGN - ';';
        static final int MOST_CODE = 256, NAMES = 6;

        private final int[] code = new int[MOST_CODE];
        private final int[] stack = new int[MOST_CODE];
        private int length = 0;

        void become(int[] draft, int drafted) {
            length = Math.min(drafted, MOST_CODE);
            System.arraycopy(draft, 0, code, 0, length);
        }

        /** What the law says of names a b o k n m; without a text its own rule. */
        int verdict(int[] names) {
            if (length == 0) {
                return names[1] <= names[0] + 3 ? 1 : 0;
            }
            int top = 0;
            boolean passedOver = false;
            for (int at = 0; at < length; at++) {
                int c = code[at];
                if (passedOver) {
                    passedOver = c != END;
                } else if (c >= -NAMES && top < MOST_CODE) {
                    stack[top] = c >= 0 ? c : names[-1 - c];
                    top++;
                } else if (c == END) {
                    return stack[0];
                } else if (c == GUARD) {
                    top = 0;
                    passedOver = stack[0] == 0;
                } else if (c == MINUS && top >= 1) {
                    stack[top - 1] = -stack[top - 1];
                } else if (c == SIGN - '!' && top >= 1) {
                    stack[top - 1] = stack[top - 1] == 0 ? 1 : 0;
                } else if (top >= 2) {
                    top--;
                    stack[top - 1] = worked(SIGN - c, stack[top - 1], stack[top]);
                }
            }
            return 0;
        }

        private static int worked(int sign, int left, int right) {
            switch (sign) {
                case '|':
                    return left != 0 || right != 0 ? 1 : 0;
                case '&':
                    return left != 0 && right != 0 ? 1 : 0;
                case '<':
                    return left < right ? 1 : 0;
                case '=':
                    return left == right ? 1 : 0;
                case '>':
                    return left > right ? 1 : 0;
                case '+':
                    return left + right;
                case '-':
                    return left - right;
                case '*':
                    return left * right;
                case '/':
                    return right == 0 ? 0 : left / right;
                default:
                    return right == 0 ? 0 : left % right;
            }
        }
    }

    /** The tape, and the reading of it as a law. */
    private static final class Reader {
        static final int MOST_BYTES = 120, MOST_OPEN = 6, MOST_DIGITS = 4;
        static final int COMPARING = 2, OPERANDS = 5;

        final int[] draft = new int[Law.MOST_CODE];
        int drafted = 0;
        int fed = 0;
        private final int[] tape = new int[MOST_BYTES];
        private int at = 0;
        private int fault = -1;

        int take(int letter) {
            if (fed >= MOST_BYTES) {
                return FULL;
            }
            tape[fed] = letter;
            fed++;
            return fed;
        }

        void empty() {
            fed = 0;
        }

        /** The fault of the tape's text, or -1; the draft holds its program then. */
        int read() {
            at = 0;
            fault = -1;
            drafted = 0;
            for (int lines = 0; lines <= MOST_BYTES; lines++) {
                readLine();
                if (fault >= 0 || at >= fed) {
                    return fault;
                }
                if (next() != ';') {
                    return at;
                }
                at++;
            }
            return at;
        }

        private void readLine() {
            readLevel(0, 0);
            if (fault < 0 && next() == '?') {
                at++;
                draw(Law.GUARD);
                readLevel(0, 0);
            }
            draw(Law.END);
        }

        /** Levels 0 .. 4 are E A B S P of the document, level 5 is O. */
        private void readLevel(int level, int open) {
            if (level >= OPERANDS) {
                readOperand(open);
                return;
            }
            readLevel(level + 1, open);
            for (int signs = 0; signs < MOST_BYTES && fault < 0 && levelOf(next()) == level; signs++) {
                int sign = next();
                at++;
                readLevel(level + 1, open);
                draw(Law.SIGN - sign);
                if (level == COMPARING) {
                    return;
                }
            }
        }

        private void readOperand(int open) {
            int c = next();
            if (c >= '0' && c <= '9') {
                readNumber();
            } else if (nameOf(c) != 0) {
                at++;
                draw(nameOf(c));
            } else if (open >= MOST_OPEN) {
                fault = at;
            } else if (c == '!' || c == '-') {
                at++;
                readOperand(open + 1);
                draw(c == '-' ? Law.MINUS : Law.SIGN - c);
            } else if (c == '(') {
                at++;
                readLevel(0, open + 1);
                close();
            } else {
                fault = at;
            }
        }

        private void close() {
            if (fault >= 0) {
                return;
            }
            if (next() == ')') {
                at++;
            } else {
                fault = at;
            }
        }

        private void readNumber() {
            int number = 0;
            for (int digits = 0; digits < MOST_DIGITS && next() >= '0' && next() <= '9'; digits++) {
                number = number * 10 + next() - '0';
                at++;
            }
            draw(number);
        }

        private int next() {
            return at < fed ? tape[at] : -1;
        }

        private void draw(int code) {
            if (drafted < Law.MOST_CODE) {
                draft[drafted] = code;
                drafted++;
            }
        }

        private static int nameOf(int letter) {
            switch (letter) {
                case 'a':
                    return -1;
                case 'b':
                    return -2;
                case 'o':
                    return -3;
                case 'k':
                    return -4;
                case 'n':
                    return -5;
                case 'm':
                    return -6;
                default:
                    return 0;
            }
        }

        private static int levelOf(int sign) {
            switch (sign) {
                case '|':
                    return 0;
                case '&':
                    return 1;
                case '<':
                case '=':
                case '>':
                    return COMPARING;
                case '+':
                case '-':
                    return 3;
                case '*':
                case '/':
                case '%':
                    return 4;
                default:
                    return -1;
            }
        }
    }

    /** Towers, roads and forests, and which towers are in line from where. */
    private static final class Plain {
        // Two slots behind the towers' own serve the game's towers, which are only thought of.
        static final int SLOTS = MOST_TOWERS + 2, INNOCENT = -1;
        // A guilt's fraction is one int: above the line times SHARE, and below it (at most 1682, not in lowest terms).
        static final int SHARE = 4096;
        private static final int UNASKED = 0, YES = 1, NO = 2;

        final int[] x = new int[SLOTS];
        final int[] y = new int[SLOTS];
        final int[] height = new int[SLOTS];
        final int[] price = new int[SLOTS];
        final int[] old = new int[SLOTS];
        int standing = 0;
        final int[] turns = new int[MOST_ROADS];
        int roads = 0;
        int forests = 0;
        private final int[] corners = new int[MOST_ROADS * MOST_CORNERS];
        private final int[] forestAx = new int[MOST_FORESTS];
        private final int[] forestAy = new int[MOST_FORESTS];
        private final int[] forestBx = new int[MOST_FORESTS];
        private final int[] forestBy = new int[MOST_FORESTS];
        private final Law rule;
        private final int[] names = new int[Law.NAMES];
        // What the law says of a road's number, a nearer and a further tower, once asked.
        private final int[] verdicts = new int[(MOST_ROADS + 1) * SLOTS * SLOTS];

        Plain(Law rule) {
            this.rule = rule;
        }

        boolean isTower(int tower) {
            return tower >= 0 && tower < standing;
        }

        boolean isRoad(int road) {
            return road >= 0 && road < roads;
        }

        int pointOf(int tower) {
            return WIDTH * y[tower] + x[tower];
        }

        int cornerAt(int road, int i) {
            return corners[road * MOST_CORNERS + i];
        }

        int build(int point, int high, int cost, int aged) {
            if (!isPoint(point) || !isHeight(high) || cost < 0 || cost > most(1) || aged < 0 || aged > 1) {
                return BAD;
            }
            if (hasTower(point)) {
                return BAD;
            }
            if (standing >= MOST_TOWERS) {
                return FULL;
            }
            place(standing, point);
            think(standing, high);
            price[standing] = cost;
            old[standing] = aged;
            standing++;
            return standing - 1;
        }

        /** A slot becomes a tower that is not old, of a height, wherever it is. */
        void think(int slot, int high) {
            height[slot] = high;
            price[slot] = 0;
            old[slot] = 0;
            forgetVerdicts();
        }

        void place(int slot, int point) {
            x[slot] = point % WIDTH;
            y[slot] = point / WIDTH;
        }

        int addRoad(int a, int b) {
            if (roads >= MOST_ROADS) {
                return FULL;
            }
            corners[roads * MOST_CORNERS] = a;
            corners[roads * MOST_CORNERS + 1] = b;
            turns[roads] = 2;
            roads++;
            return roads - 1;
        }

        int addCorner(int road, int point) {
            if (turns[road] >= MOST_CORNERS) {
                return FULL;
            }
            corners[road * MOST_CORNERS + turns[road]] = point;
            turns[road]++;
            return turns[road];
        }

        int addForest(int a, int b) {
            if (forests >= MOST_FORESTS) {
                return FULL;
            }
            forestAx[forests] = a % WIDTH;
            forestAy[forests] = a / WIDTH;
            forestBx[forests] = b % WIDTH;
            forestBy[forests] = b / WIDTH;
            forests++;
            return forests - 1;
        }

        /** The greatest number of a trait: 0 height, 1 price, 2 old. */
        int most(int what) {
            return what == 0 ? 9 : what == 1 ? 99 : 1;
        }

        int trait(int tower, int what) {
            return what == 0 ? height[tower] : what == 1 ? price[tower] : old[tower];
        }

        void setTrait(int tower, int what, int v) {
            if (what == 0) {
                height[tower] = v;
            } else if (what == 1) {
                price[tower] = v;
            } else {
                old[tower] = v;
            }
            forgetVerdicts();
        }

        void forgetVerdicts() {
            Arrays.fill(verdicts, UNASKED);
        }

        boolean hasTower(int point) {
            for (int t = 0; t < standing; t++) {
                if (pointOf(t) == point) {
                    return true;
                }
            }
            return false;
        }

        private boolean hasCorner(int point) {
            for (int r = 0; r < roads; r++) {
                for (int i = 0; i < turns[r]; i++) {
                    if (cornerAt(r, i) == point) {
                        return true;
                    }
                }
            }
            return false;
        }

        /** Whether the law counts two towers, the nearer one named first. */
        private boolean counts(int k, int near, int far) {
            int at = (k * SLOTS + near) * SLOTS + far;
            if (verdicts[at] == UNASKED) {
                names[0] = height[near];
                names[1] = height[far];
                names[2] = old[near] + old[far];
                names[3] = k;
                // The game's towers all bear the number 10.
                names[4] = Math.min(Math.min(near, far), MOST_TOWERS);
                names[5] = Math.min(Math.max(near, far), MOST_TOWERS);
                verdicts[at] = rule.verdict(names) != 0 ? YES : NO;
            }
            return verdicts[at] == YES;
        }

        boolean areInLine(int point, int k, int s, int t) {
            int px = point % WIDTH;
            int py = point / WIDTH;
            return side(px, py, s, t) == 0 && lineUp(px, py, 1, k, s, t);
        }

        /** 0 on the line through two towers, above and below 0 beside it. */
        private int side(int px, int py, int s, int t) {
            return (x[t] - x[s]) * (py - y[s]) - (y[t] - y[s]) * (px - x[s]);
        }

        /** Whether two towers are in line from (px / den, py / den), a point of the line through both. */
        private boolean lineUp(int px, int py, int den, int k, int s, int t) {
            int dx = x[t] - x[s];
            int dy = y[t] - y[s];
            int toS = dx != 0 ? x[s] * den - px : y[s] * den - py;
            int toT = dx != 0 ? x[t] * den - px : y[t] * den - py;
            if (toS == 0 || toT == 0 || (toS > 0) != (toT > 0)) {
                return false;
            }
            boolean firstIsNear = Math.abs(toS) < Math.abs(toT);
            int near = firstIsNear ? s : t;
            int far = firstIsNear ? t : s;
            // The way to the nearer one is a part of the way to the further one, so that one is asked alone.
            return counts(k, near, far) && !isStopped(px, py, den, far, dx, dy);
        }

        /** Whether a forest stops the way from (px / den, py / den) to a tower; it runs along (dx, dy). */
        private boolean isStopped(int px, int py, int den, int tower, int dx, int dy) {
            for (int f = 0; f < forests; f++) {
                if (cuts(f, px, py, den, tower, dx, dy)) {
                    return true;
                }
            }
            return false;
        }

        private boolean cuts(int f, int px, int py, int den, int tower, int dx, int dy) {
            int ax = forestAx[f];
            int ay = forestAy[f];
            int bx = forestBx[f];
            int by = forestBy[f];
            int tx = x[tower];
            int ty = y[tower];
            int sideA = dx * (ay - ty) - dy * (ax - tx);
            int sideB = dx * (by - ty) - dy * (bx - tx);
            if (areBothOnOneSide(sideA, sideB)) {
                return false;
            }
            if (sideA == 0 && sideB == 0) {
                return dx != 0 ? overlap(px, tx * den, ax * den, bx * den) : overlap(py, ty * den, ay * den, by * den);
            }
            int ofPoint = (bx - ax) * (py - ay * den) - (by - ay) * (px - ax * den);
            int ofTower = (bx - ax) * (ty - ay) - (by - ay) * (tx - ax);
            return (ofPoint > 0 && ofTower < 0) || (ofPoint < 0 && ofTower > 0);
        }

        private static boolean areBothOnOneSide(int a, int b) {
            return (a > 0 && b > 0) || (a < 0 && b < 0);
        }

        /** Whether a way without its ends p, q and a forest with its ends a, b have a place in common. */
        private static boolean overlap(int p, int q, int a, int b) {
            int low = p < q ? p : q;
            int high = p < q ? q : p;
            return (a < high || b < high) && (a > low || b > low);
        }

        /** The fraction of the way from point a to point b where two towers are in line, or INNOCENT. */
        int guiltBetween(int a, int b, int k, int s, int t) {
            int ax = a % WIDTH;
            int ay = a / WIDTH;
            int bx = b % WIDTH;
            int by = b / WIDTH;
            int sideA = side(ax, ay, s, t);
            int sideB = side(bx, by, s, t);
            if (areBothOnOneSide(sideA, sideB)) {
                return INNOCENT;
            }
            if (sideA == 0 && sideB == 0) {
                if (lineUp(ax, ay, 1, k, s, t)) {
                    return 1;
                }
                return lineUp(bx, by, 1, k, s, t) ? SHARE + 1 : INNOCENT;
            }
            int above = Math.abs(sideA);
            int below = above + Math.abs(sideB);
            int px = ax * below + (bx - ax) * above;
            int py = ay * below + (by - ay) * above;
            return lineUp(px, py, below, k, s, t) ? above * SHARE + below : INNOCENT;
        }

        /** How many guilts the way from point a to point b has; counted no further than the limit. */
        int guiltsBetween(int a, int b, int k, int limit) {
            int guilts = 0;
            for (int s = 0; s < standing; s++) {
                for (int t = s + 1; t < standing && guilts < limit; t++) {
                    if (guiltBetween(a, b, k, s, t) != INNOCENT) {
                        guilts++;
                    }
                }
            }
            return guilts;
        }

        int roadGuilts(int road) {
            int guilts = 0;
            for (int i = 0; i + 1 < turns[road]; i++) {
                guilts += guiltsBetween(cornerAt(road, i), cornerAt(road, i + 1), road, ENDLESS);
            }
            return guilts;
        }

        int allGuilts() {
            int guilts = 0;
            for (int r = 0; r < roads; r++) {
                for (int i = 0; i + 1 < turns[r]; i++) {
                    guilts += guiltsBetween(cornerAt(r, i), cornerAt(r, i + 1), r, ENDLESS);
                }
            }
            return guilts;
        }

        /** 10 times the lesser tower and the other one, or -1. */
        int firstGuiltyPair(int road, int i) {
            for (int s = 0; s < standing; s++) {
                for (int t = s + 1; t < standing; t++) {
                    if (guiltBetween(cornerAt(road, i), cornerAt(road, i + 1), road, s, t) != INNOCENT) {
                        return 10 * s + t;
                    }
                }
            }
            return -1;
        }

        int guiltsWith(int tower) {
            int guilts = 0;
            for (int t = 0; t < standing; t++) {
                if (t != tower) {
                    guilts += guiltsOfPair(t, tower);
                }
            }
            return guilts;
        }

        int guiltsOfPair(int s, int t) {
            int guilts = 0;
            for (int r = 0; r < roads; r++) {
                for (int i = 0; i + 1 < turns[r]; i++) {
                    if (guiltBetween(cornerAt(r, i), cornerAt(r, i + 1), r, s, t) != INNOCENT) {
                        guilts++;
                    }
                }
            }
            return guilts;
        }

        /** Whether the tower thought of in a slot may stand at a point; it is there then. */
        boolean isFreeFor(int slot, int point) {
            if (hasTower(point) || hasCorner(point)) {
                return false;
            }
            place(slot, point);
            for (int r = 0; r < roads; r++) {
                for (int i = 0; i + 1 < turns[r]; i++) {
                    for (int t = 0; t < standing; t++) {
                        if (guiltBetween(cornerAt(r, i), cornerAt(r, i + 1), r, t, slot) != INNOCENT) {
                            return false;
                        }
                    }
                }
            }
            return true;
        }

        /** What is seen from a point, as bits, were there no tower of the number without. */
        int seenFrom(int point, int without) {
            int bits = 0;
            int others = 0;
            for (int t = 0; t < standing; t++) {
                if (t != without) {
                    bits = joinSeen(point, others, bits, t);
                    others |= 1 << t;
                }
            }
            return bits;
        }

        /** What is seen from a point if a tower joins others, of which bits are seen. */
        int joinSeen(int point, int others, int bits, int tower) {
            int px = point % WIDTH;
            int py = point / WIDTH;
            int dx = x[tower] - px;
            int dy = y[tower] - py;
            if (dx == 0 && dy == 0) {
                return bits;
            }
            int shown = bits;
            boolean shows = !isStopped(px, py, 1, tower, dx, dy);
            for (int j = 0; j < standing; j++) {
                int jx = x[j] - px;
                int jy = y[j] - py;
                boolean along = dx * jy == dy * jx && dx * jx + dy * jy > 0;
                if ((others >> j & 1) == 0 || !along) {
                    continue;
                }
                if (Math.abs(jx) + Math.abs(jy) < Math.abs(dx) + Math.abs(dy)) {
                    shows = shows && height[j] < height[tower];
                } else if (height[tower] >= height[j]) {
                    shown &= ~(1 << j);
                }
            }
            return shows ? shown | 1 << tower : shown;
        }
    }

    /** What would be: towers more, fewer or elsewhere, roads bent or new. */
    private static final class Planner {
        private static final int NEW_ROAD = 4, UNTRODDEN = -1;
        private final Plain plain;
        private final int[] quarrels = new int[MOST_TOWERS];
        private final int[] steps = new int[POINTS];
        private final int[] queue = new int[POINTS];
        int savedByBend = 0;

        Planner(Plain plain) {
            this.plain = plain;
        }

        /** How many points of a row are free, or the first x. */
        int freeInRow(int row, int high, boolean where) {
            int slot = plain.standing;
            plain.think(slot, high);
            int found = 0;
            for (int i = 0; i < WIDTH; i++) {
                if (plain.isFreeFor(slot, WIDTH * row + i)) {
                    if (where) {
                        return i;
                    }
                    found++;
                }
            }
            return where ? NOT : found;
        }

        /** How many towers come year by year, or where the last one stands. */
        int settle(int high, boolean where) {
            int before = plain.standing;
            int last = NOT;
            boolean comes = true;
            for (int slot = before; slot < MOST_TOWERS && comes; slot++) {
                plain.think(slot, high);
                int point = 0;
                while (point < POINTS && !plain.isFreeFor(slot, point)) {
                    point++;
                }
                comes = point < POINTS;
                if (comes) {
                    last = point;
                    plain.standing++;
                }
            }
            int came = plain.standing - before;
            plain.standing = before;
            return where ? last : came;
        }

        /** The towers that go, as bits: the fewest of them or, by price, the cheapest. */
        int leastToGo(boolean byPrice) {
            int best = 0;
            int least = ENDLESS;
            for (int gone = 0; gone < 1 << plain.standing; gone++) {
                int cost = byPrice ? priceOf(gone) : Integer.bitCount(gone);
                if (cost < least && leavesPeace(gone)) {
                    best = gone;
                    least = cost;
                }
            }
            return best;
        }

        /** Has to come ahead of leastToGo. */
        void findQuarrels() {
            Arrays.fill(quarrels, 0);
            for (int s = 0; s < plain.standing; s++) {
                for (int t = s + 1; t < plain.standing; t++) {
                    if (plain.guiltsOfPair(s, t) > 0) {
                        quarrels[s] |= 1 << t;
                    }
                }
            }
        }

        private boolean leavesPeace(int gone) {
            for (int t = 0; t < plain.standing; t++) {
                if ((gone >> t & 1) == 0 && (quarrels[t] & ~gone) != 0) {
                    return false;
                }
            }
            return true;
        }

        int priceOf(int bits) {
            int sum = 0;
            for (int t = 0; t < plain.standing; t++) {
                if ((bits >> t & 1) != 0) {
                    sum += plain.price[t];
                }
            }
            return sum;
        }

        /** The point where a tower would be, or NOT. */
        int target(int tower, int dx, int dy) {
            int toX = plain.x[tower] + dx;
            int toY = plain.y[tower] + dy;
            if (toX < 0 || toX >= WIDTH || toY < 0 || toY >= WIDTH) {
                return NOT;
            }
            int to = WIDTH * toY + toX;
            return to != plain.pointOf(tower) && plain.hasTower(to) ? NOT : to;
        }

        /** The best new corner within a stretch; savedByBend tells how many guilts fewer there are then. */
        int bestBend(int road, int i) {
            int a = plain.cornerAt(road, i);
            int b = plain.cornerAt(road, i + 1);
            int best = NOT;
            int least = ENDLESS;
            for (int point = 0; point < POINTS && least > 0; point++) {
                if (point == a || point == b || plain.hasTower(point)) {
                    continue;
                }
                int guilts = plain.guiltsBetween(a, point, road, least);
                guilts += plain.guiltsBetween(point, b, road, least - guilts);
                if (guilts < least) {
                    best = point;
                    least = guilts;
                }
            }
            savedByBend = plain.guiltsBetween(a, b, road, ENDLESS) - least;
            return best;
        }

        /** The fewest steps of a new road, or NOT. */
        int stepsBetween(int a, int b) {
            if (!isClear(a) || !isClear(b)) {
                return NOT;
            }
            Arrays.fill(steps, UNTRODDEN);
            steps[a] = 0;
            queue[0] = a;
            int queued = 1;
            for (int head = 0; head < queued && steps[b] == UNTRODDEN; head++) {
                for (int way = 0; way < 4; way++) {
                    int point = neighbour(queue[head], way);
                    if (point >= 0 && queued < POINTS && steps[point] == UNTRODDEN && isClear(point)) {
                        steps[point] = steps[queue[head]] + 1;
                        queue[queued] = point;
                        queued++;
                    }
                }
            }
            return steps[b] == UNTRODDEN ? NOT : steps[b];
        }

        /** The point a step away, or NOT beyond the plain. */
        private static int neighbour(int point, int way) {
            switch (way) {
                case 0:
                    return point % WIDTH > 0 ? point - 1 : NOT;
                case 1:
                    return point % WIDTH < WIDTH - 1 ? point + 1 : NOT;
                case 2:
                    return point >= WIDTH ? point - WIDTH : NOT;
                default:
                    return point < POINTS - WIDTH ? point + WIDTH : NOT;
            }
        }

        private boolean isClear(int point) {
            if (plain.hasTower(point)) {
                return false;
            }
            for (int s = 0; s < plain.standing; s++) {
                for (int t = s + 1; t < plain.standing; t++) {
                    if (plain.areInLine(point, NEW_ROAD, s, t)) {
                        return false;
                    }
                }
            }
            return true;
        }
    }

    /** The game on a small square, solved backward from the full one; cells are bits. */
    private static final class Game {
        private static final int MOST_CELLS = 9, MINE = MOST_TOWERS, YOURS = MOST_TOWERS + 1;
        private final Plain plain;
        private final int[] clashes = new int[MOST_CELLS];
        private final boolean[] wins = new boolean[1 << MOST_CELLS];
        private int least = 0;
        private int side = 1;
        private int open = 0;

        Game(Plain plain) {
            this.plain = plain;
        }

        /** The square with its free cells. */
        void layOut(int point, int width, int high) {
            least = point;
            side = Math.max(1, Math.min(width, 3));
            plain.think(MINE, high);
            plain.think(YOURS, high);
            open = 0;
            for (int c = 0; c < side * side; c++) {
                if (plain.isFreeFor(MINE, pointOf(c))) {
                    open |= 1 << c;
                }
            }
        }

        /** Each cell clashes with itself, too: nobody puts two towers at one point. */
        void findClashes() {
            for (int c = 0; c < side * side; c++) {
                clashes[c] = 1 << c;
                plain.place(MINE, pointOf(c));
                for (int d = 0; d < c; d++) {
                    plain.place(YOURS, pointOf(d));
                    if (plain.guiltsOfPair(MINE, YOURS) > 0) {
                        clashes[c] |= 1 << d;
                        clashes[d] |= 1 << c;
                    }
                }
            }
        }

        /** The first point by which who begins wins, or NOT. */
        int firstWinner() {
            int cells = side * side;
            for (int taken = (1 << cells) - 1; taken > 0; taken--) {
                wins[taken] = winningCell(taken) >= 0;
            }
            int cell = winningCell(0);
            return cell < 0 ? NOT : pointOf(cell);
        }

        private int pointOf(int cell) {
            return least + WIDTH * (cell / side) + cell % side;
        }

        private int winningCell(int taken) {
            if (plain.standing + Integer.bitCount(taken) >= MOST_TOWERS) {
                return NOT;
            }
            for (int c = 0; c < side * side; c++) {
                boolean may = (open >> c & 1) != 0 && (clashes[c] & taken) == 0;
                if (may && !wins[taken | 1 << c]) {
                    return c;
                }
            }
            return NOT;
        }
    }

    /** What a walker told, and where a tower can be so that it is true. */
    private static final class Walker {
        int told = 0;
        private final Plain plain;
        private final int[] points = new int[MOST_SIGHTS];
        private final int[] sights = new int[MOST_SIGHTS];
        private final int[] without = new int[MOST_SIGHTS];

        Walker(Plain plain) {
            this.plain = plain;
        }

        int tell(int point, int towers) {
            if (told >= MOST_SIGHTS) {
                return FULL;
            }
            points[told] = point;
            sights[told] = towers;
            told++;
            return told - 1;
        }

        /** At how many points a tower can be, or the first of them. */
        int placesFor(int tower, boolean where) {
            for (int i = 0; i < told; i++) {
                without[i] = plain.seenFrom(points[i], tower);
            }
            int from = plain.pointOf(tower);
            int found = 0;
            int first = NOT;
            for (int point = 0; point < POINTS; point++) {
                plain.place(tower, from);
                if (point != from && plain.hasTower(point)) {
                    continue;
                }
                plain.place(tower, point);
                if (agrees(tower)) {
                    first = found == 0 ? point : first;
                    found++;
                }
            }
            plain.place(tower, from);
            return where ? first : found;
        }

        private boolean agrees(int tower) {
            int others = ~(1 << tower);
            for (int i = 0; i < told; i++) {
                if (plain.joinSeen(points[i], others, without[i], tower) != sights[i]) {
                    return false;
                }
            }
            return true;
        }
    }

    /** The latest changes of towers; those undone lie behind those that stand. */
    private static final class History {
        private static final int MOST_CHANGES = 40;
        int past = 0;
        private int undone = 0;
        private final Plain plain;
        private final int[] towers = new int[MOST_CHANGES];
        private final int[] traits = new int[MOST_CHANGES];
        private final int[] before = new int[MOST_CHANGES];
        private final int[] after = new int[MOST_CHANGES];

        History(Plain plain) {
            this.plain = plain;
        }

        void note(int tower, int what, int was, int v) {
            if (past >= MOST_CHANGES) {
                dropOldest();
            }
            towers[past] = tower;
            traits[past] = what;
            before[past] = was;
            after[past] = v;
            past++;
            undone = 0;
        }

        private void dropOldest() {
            past = MOST_CHANGES - 1;
            System.arraycopy(towers, 1, towers, 0, past);
            System.arraycopy(traits, 1, traits, 0, past);
            System.arraycopy(before, 1, before, 0, past);
            System.arraycopy(after, 1, after, 0, past);
        }

        int back() {
            if (past <= 0) {
                return STATE;
            }
            past--;
            undone++;
            plain.setTrait(towers[past], traits[past], before[past]);
            return past;
        }

        int forth() {
            if (undone <= 0 || past >= MOST_CHANGES) {
                return STATE;
            }
            plain.setTrait(towers[past], traits[past], after[past]);
            past++;
            undone--;
            return undone;
        }
    }

    /** Bodies of kinds, whose acts come from above where a kind has none of its own. */
    private static final class Ways {
        private static final int KINDS = 8, ACTS = 4, MOST_TRACED = 24, MOST_DEPTH = 40;
        private static final int TOWER = 0, POINT = 1, BROAD = 2, HIGH = 3, MOVED = 4;
        private static final int HIDES = 0, STANDS = 1, LINES = 2, TELLS = 3;
        private static final int[] ABOVE = {-1, 0, 0, 2, 1, 3, 0, 4};
        // By kinds, then hides, stands, lines, tells; 0: it comes from above.
        private static final int[] OWN = {
            1, 10, 11, 2,
            20, 0, 0, 0,
            0, 30, 0, 0,
            0, 41, 40, 0,
            0, 0, 50, 0,
            0, 0, 0, 60,
            70, 0, 0, 0,
            0, 80, 0, 81,
        };

        int bodies = 0;
        int ran = 0;
        private final int[] kinds = new int[MOST_BODIES];
        private final int[] began = new int[MOST_TRACED];
        private int self = 0;

        static boolean isKind(int kind) {
            return kind >= 0 && kind < KINDS;
        }

        /** Whether a kind is another one or under it. */
        static boolean isUnder(int kind, int other) {
            int at = kind;
            for (int up = 0; up < KINDS && at >= 0; up++) {
                if (at == other) {
                    return true;
                }
                at = ABOVE[at];
            }
            return false;
        }

        boolean isBody(int body) {
            return body >= 0 && body < bodies;
        }

        int kindOf(int body) {
            return isBody(body) ? kinds[body] : TOWER;
        }

        int add(int kind) {
            if (bodies >= MOST_BODIES) {
                return FULL;
            }
            kinds[bodies] = kind;
            bodies++;
            return bodies - 1;
        }

        int traced(int i) {
            return i >= 0 && i < Math.min(ran, MOST_TRACED) ? began[i] : BAD;
        }

        int perform(int body, int act, int x) {
            ran = 0;
            if (!isBody(body) || act < 0 || act >= ACTS) {
                return 0;
            }
            self = body;
            return own(act, x, 0);
        }

        private int own(int act, int x, int depth) {
            return from(kinds[self], act, x, depth);
        }

        /** An act by the body that a kind has, or the next one above. */
        private int from(int kind, int act, int x, int depth) {
            int at = kind;
            for (int up = 0; up < KINDS && at > TOWER && OWN[at * ACTS + act] == 0; up++) {
                at = ABOVE[at];
            }
            if (at < TOWER || depth >= MOST_DEPTH) {
                return 0;
            }
            int body = OWN[at * ACTS + act];
            if (ran < MOST_TRACED) {
                began[ran] = body;
            }
            ran++;
            return run(body, x, depth + 1);
        }

        private int run(int body, int x, int depth) {
            switch (body) {
                case 1:
                    return x + self;
                case 2:
                    return own(STANDS, x, depth) - own(LINES, 1, depth);
                case 10:
                    return own(HIDES, x, depth) * 2;
                case 11:
                    return x ^ self;
                case 20:
                    return from(TOWER, HIDES, x, depth) + 3;
                case 30:
                    return -from(TOWER, STANDS, x, depth);
                case 40:
                    return from(BROAD, LINES, x, depth) * 3;
                case 41:
                    return from(BROAD, STANDS, x + 1, depth);
                case 50:
                    return from(POINT, LINES, x, depth) - own(HIDES, 2, depth);
                case 60:
                    return from(HIGH, TELLS, x, depth) ^ 5;
                case 70:
                    return from(TOWER, HIDES, x, depth) * 2;
                case 80:
                    return from(MOVED, STANDS, x, depth) + own(LINES, 2, depth);
                default:
                    return from(MOVED, TELLS, x, depth) - 1;
            }
        }
    }

    /** A shelf: nothing, a body or a row. */
    private static final class Shelf {
        static final int MOST_CELLS = 60, NONE = -1;
        static final int BYTES = 0, SHORTS = 1, INTS = 2, LONGS = 3, BOOLEANS = 4;

        final long[] cells = new long[MOST_CELLS];
        int body = NONE;
        int sort = NONE;
        int size = 0;

        boolean isEmpty() {
            return body == NONE && sort == NONE;
        }

        boolean isRow() {
            return sort != NONE;
        }

        boolean isRowOf(int wanted) {
            return isRow() && sort == wanted;
        }

        /** NONE: the shelf holds nothing then. */
        void holdBody(int number) {
            body = number;
            sort = NONE;
            size = 0;
        }

        void holdRow(int wanted, int n) {
            body = NONE;
            sort = wanted;
            size = n;
            Arrays.fill(cells, 0L);
        }

        /** Whether n cells from i on are there. */
        boolean spans(int i, int n) {
            return i >= 0 && n >= 0 && i <= size && n <= size - i;
        }

        void setCell(int i, long v) {
            cells[i] = narrowed(v);
        }

        private long narrowed(long v) {
            switch (sort) {
                case BYTES:
                    return (byte) v;
                case SHORTS:
                    return (short) v;
                case INTS:
                    return (int) v;
                case LONGS:
                    return v;
                default:
                    return v != 0 ? 1 : 0;
            }
        }
    }
}

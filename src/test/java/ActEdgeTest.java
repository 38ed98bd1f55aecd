import java.util.function.Consumer;
import java.util.function.ToLongFunction;

/** Promises 29 to 38: bodies, their acts and trace, shelves and their rows, counts, at their edges. */
final class ActEdgeTest extends Edges {
    private static final int[] NO_SHELVES = {-1, 6, 7, MIN, MAX};
    private static final int BYTES = 0, SHORTS = 1, INTS = 2, LONGS = 3, BOOLEANS = 4;

    private ActEdgeTest() { }

    public static void main(String[] args) {
        bodies();
        actNone();
        actWraps();
        actNumbers();
        traceEdges();
        traceRows();
        keepRefused();
        keepEdges();
        rowRefused();
        rowEdges();
        placeRefused();
        putKeeps();
        elementEdges();
        shiftRefused();
        shiftPlaces();
        shiftAsTheyWere();
        takenRefused();
        takenKinds();
        countRefused();
        countAll();
        CHECK.end();
    }

    // ---- promises 29, 30, 31

    private static void bodies() {
        for (int kind : new int[] {-1, 8, 9, MIN, MAX}) {
            bad("29: kind " + kind, x -> x.body(kind));
        }
        NeverInLine x = new NeverInLine();
        for (int i = 0; i < 50; i++) {
            due("29: its number", x.body(i % 3 == 0 ? 7 : 0), i);
        }
        due("29: the fifty-first", x.body(0), FULL);
        due("29: fifty", x.count(6), 50);
        due("29: the last one acts", x.act(49, 0, 1), 50);
        due("29: there is none behind it", x.act(50, 0, 1), 0);
        for (int kind = 0; kind < 8; kind++) {
            int it = kind;
            refused("29: full, kind " + kind, States::full, y -> y.body(it), FULL);
            NeverInLine one = new NeverInLine();
            due("29: kind " + kind, one.body(kind), 0);
            one.keep(0, 0);
            due("29: it is of it", one.taken(0, kind), kind);
        }
    }

    private static void actNone() {
        Consumer<NeverInLine> noTrace = x -> {
            States.rich(x);
            x.act(0, 4, 0);
        };
        for (int body : new int[] {-1, 8, 50, MIN, MAX}) {
            none("body " + body, noTrace, x -> x.act(body, 0, 7));
        }
        for (int act : new int[] {-1, 4, 5, MIN, MAX}) {
            none("act " + act, noTrace, x -> x.act(0, act, 7));
        }
        none("no body, no act", noTrace, x -> x.act(-1, -1, 7));
        NeverInLine empty = new NeverInLine();
        due("30: no body yet", empty.act(0, 0, 7), 0);
        due("31: no trace then", empty.trace(0), BAD);
    }

    /** 0, and no trace then; all else is as it was. */
    private static void none(String told, Consumer<NeverInLine> noTrace, ToLongFunction<NeverInLine> made) {
        NeverInLine x = Twins.made(States::rich);
        due("38: bodies ran", x.count(7), 14);
        due("30: " + told, made.applyAsLong(x), 0);
        due("30: no trace then: " + told, x.trace(0), BAD);
        due("38: none ran: " + told, x.count(7), 0);
        refused("30: " + told, noTrace, made, 0);
    }

    private static void actWraps() {
        NeverInLine x = new NeverInLine();
        for (int kind = 0; kind < 8; kind++) {
            x.body(kind);
        }
        int[] values = {MIN, MIN + 1, -2, -1, 0, 1, MAX - 8, MAX - 1, MAX, 1 << 30, (1 << 30) - 1, -(1 << 30)};
        for (int v : values) {
            // hides, stands, lines, tells of each kind as an int, by hand from what the document says.
            due("30: 0 hides " + v, x.act(0, 0, v), v);
            due("30: 1 hides " + v, x.act(1, 0, v), v + 1 + 3);
            due("30: 5 hides " + v, x.act(5, 0, v), v + 5);
            due("30: 6 hides " + v, x.act(6, 0, v), (v + 6) * 2);
            due("30: 7 hides " + v, x.act(7, 0, v), v + 10);
            due("30: 0 stands " + v, x.act(0, 1, v), v * 2);
            due("30: 2 stands " + v, x.act(2, 1, v), -((v + 2) * 2));
            due("30: 3 stands " + v, x.act(3, 1, v), -((v + 4) * 2));
            due("30: 5 stands " + v, x.act(5, 1, v), -((v + 6) * 2));
            due("30: 6 stands " + v, x.act(6, 1, v), (v + 6) * 4);
            due("30: 7 stands " + v, x.act(7, 1, v), (v + 10) * 2 + (2 ^ 7) - 12);
            due("30: 0 lines " + v, x.act(0, 2, v), v);
            due("30: 3 lines " + v, x.act(3, 2, v), (v ^ 3) * 3);
            due("30: 4 lines " + v, x.act(4, 2, v), (v ^ 4) - 9);
            due("30: 5 lines " + v, x.act(5, 2, v), (v ^ 5) * 3);
            due("30: 0 tells " + v, x.act(0, 3, v), v * 2 - 1);
            due("30: 3 tells " + v, x.act(3, 3, v), -((v + 4) * 2) - 6);
            due("30: 4 tells " + v, x.act(4, 3, v), (v + 7) * 2 - (5 - 9));
            due("30: 5 tells " + v, x.act(5, 3, v), (-((v + 6) * 2) - 12) ^ 5);
            due("30: 7 tells " + v, x.act(7, 3, v), (v + 10) * 2 + (5 - 12) - (6 - 12) - 1);
        }
    }

    private static void actNumbers() {
        NeverInLine x = new NeverInLine();
        for (int i = 0; i < 50; i++) {
            x.body(i < 49 ? 0 : 4);
        }
        due("30: the first one's number is 0", x.act(0, 2, 7), 7);
        due("30: the last one's number is 49", x.act(49, 0, 0), 52);
        due("30: it lines", x.act(49, 2, 0), 49 - 54);
        TWINS.alike("30: an act changes its trace alone", y -> {
            States.rich(y);
            y.act(2, 0, 9);
            y.act(7, 3, 5);
        }, States::rich);
    }

    private static void traceEdges() {
        for (int i : new int[] {-1, 24, 25, MIN, MAX}) {
            bad("31: place " + i, x -> x.trace(i));
        }
        refused("31: nothing ran yet", States::empty, x -> x.trace(0), BAD);
        refused("31: behind the last one", States::rich, x -> x.trace(14), BAD);
        NeverInLine x = Twins.made(States::rich);
        due("31: the first", x.trace(0), 81);
        due("31: the last", x.trace(13), 1);
        TWINS.asks("31: trace", States::rich, y -> y.trace(3));
    }

    private static void traceRows() {
        NeverInLine x = new NeverInLine();
        for (int kind = 0; kind < 8; kind++) {
            x.body(kind);
        }
        // By kinds: what runs as it hides, stands, lines.
        int[][][] rows = {
            {{1}, {10, 1}, {11}}, {{20, 1}, {10, 20, 1}, {11}}, {{1}, {30, 10, 1}, {11}}, {{1}, {41, 30, 10, 1}, {40, 11}},
            {{20, 1}, {10, 20, 1}, {50, 11, 20, 1}}, {{1}, {41, 30, 10, 1}, {40, 11}}, {{70, 1}, {10, 70, 1}, {11}},
            {{20, 1}, {80, 10, 20, 1, 50, 11, 20, 1}, {50, 11, 20, 1}},
        };
        for (int kind = 0; kind < 8; kind++) {
            for (int act = 0; act < 3; act++) {
                x.act(kind, act, 3);
                int[] want = rows[kind][act];
                due("38: so many ran, kind " + kind + " act " + act, x.count(7), want.length);
                for (int i = 0; i < want.length; i++) {
                    due("31: kind " + kind + " act " + act + " place " + i, x.trace(i), want[i]);
                }
                due("31: no more, kind " + kind + " act " + act, x.trace(want.length), BAD);
            }
        }
        x.act(7, 3, 0);
        x.act(0, 0, 0);
        due("31: of the latest act alone", x.trace(1), BAD);
        due("31: the latest act's", x.trace(0), 1);
    }

    // ---- promises 32, 33

    private static void keepRefused() {
        for (int shelf : NO_SHELVES) {
            bad("32: shelf " + shelf, x -> x.keep(shelf, -1));
            bad("32: shelf " + shelf + ", a body", x -> x.keep(shelf, 0));
        }
        for (int body : new int[] {-2, 50, MIN, MAX}) {
            bad("32: body " + body, x -> x.keep(0, body));
        }
        refused("32: no body yet", States::empty, x -> x.keep(0, 0), BAD);
        refused("32: no such body yet", States::rich, x -> x.keep(0, 8), BAD);
        TWINS.asks("32: nothing where nothing is", States::rich, x -> x.keep(3, -1));
        TWINS.asks("32: the same body again", States::rich, x -> x.keep(2, 3));
    }

    private static void keepEdges() {
        NeverInLine x = Twins.made(States::full);
        for (int shelf = 0; shelf < 6; shelf++) {
            due("32: the last body on " + shelf, x.keep(shelf, 49), 1);
            due("32: it is there", x.taken(shelf, 0), 49 % 8);
            due("32: the first body", x.keep(shelf, 0), 1);
            due("32: it is there instead", x.taken(shelf, 0), 0);
            due("32: nothing", x.keep(shelf, -1), 1);
            due("32: nothing there", x.taken(shelf, 0), -11);
        }
        x.keep(1, 9);
        x.keep(4, 9);
        due("32: one body on two shelves", x.taken(1, 1) * 10 + x.taken(4, 1), 11);
        x.keep(1, -1);
        due("32: it stays on the other", x.taken(4, 1), 1);
        due("32: bodies stay", x.count(6), 50);
        x.row(0, INTS, 2);
        x.keep(0, 3);
        due("32: a body instead of a row", x.put(0, 0, 1), -12);
        x.row(0, INTS, 2);
        due("33: a row instead of a body", x.taken(0, 0), -12);
        due("33: its places", x.put(0, 1, 5), 1);
    }

    private static void rowRefused() {
        for (int shelf : NO_SHELVES) {
            bad("33: shelf " + shelf, x -> x.row(shelf, 0, 1));
            bad("33: BAD is ahead of -14, shelf " + shelf, x -> x.row(shelf, 0, -1));
        }
        for (int sort : new int[] {-1, 5, MIN, MAX}) {
            bad("33: sort " + sort, x -> x.row(0, sort, 1));
            bad("33: BAD is ahead of -14, sort " + sort, x -> x.row(0, sort, MIN));
        }
        for (int n : new int[] {61, 62, 1000, MAX}) {
            bad("33: n " + n, x -> x.row(0, 0, n));
        }
        for (int n : new int[] {-1, -2, -61, MIN}) {
            for (int sort = 0; sort < 5; sort++) {
                int it = sort;
                refused("33: a size below 0: " + n, States::rich, x -> x.row(0, it, n), -14);
            }
            refused("33: a size below 0 where nothing is: " + n, States::empty, x -> x.row(5, 0, n), -14);
            refused("33: a size below 0 where a body is: " + n, States::rich, x -> x.row(2, 4, n), -14);
        }
    }

    private static void rowEdges() {
        for (int sort = 0; sort < 5; sort++) {
            NeverInLine x = new NeverInLine();
            due("33: none", x.row(0, sort, 0), 1);
            due("33: it has no place", x.put(0, 0, 1), -13);
            due("33: it is a row", x.taken(0, 0), -12);
            due("33: one", x.row(5, sort, 1), 1);
            due("33: 0 at first", x.element(5, 0), 0);
            due("33: one place", x.put(5, 0, 1) * 100 + x.put(5, 1, 1), 100 - 13);
            due("33: sixty", x.row(3, sort, 60), 1);
            for (int i = 0; i < 60; i++) {
                due("33: 0 at first, place " + i, x.element(3, i), 0);
                due("33: place " + i, x.put(3, i, 1), 1);
            }
            due("33: no place 60", x.put(3, 60, 1), -13);
            due("33: anew", x.row(3, sort, 60), 1);
            due("33: 0 anew", x.element(3, 0) + x.element(3, 59), 0);
            x.put(3, 5, 1);
            x.row(3, sort, 3);
            x.row(3, sort, 6);
            due("33: 0 behind a shorter one", x.element(3, 5), 0);
            x.put(3, 5, 1);
            x.keep(3, -1);
            x.row(3, (sort + 1) % 5, 6);
            due("33: 0 behind nothing", x.element(3, 5), 0);
            due("33: the other shelf is as it was", x.element(5, 0), 1);
        }
    }

    // ---- promises 34, 35

    private static void placeRefused() {
        for (int shelf : NO_SHELVES) {
            bad("34: shelf " + shelf, x -> x.put(shelf, 0, 1));
            refused("35: shelf " + shelf, States::rich, x -> x.element(shelf, 0), Long.MIN_VALUE);
        }
        int[][] sizes = {{0, 7}, {1, 4}, {4, 2}, {5, 3}};
        for (int[] size : sizes) {
            for (int i : new int[] {-1, MIN, MAX, size[1], size[1] + 1, 59, 60}) {
                refused("34: shelf " + size[0] + " has no place " + i, States::rich, x -> x.put(size[0], i, 1), -13);
                refused("35: shelf " + size[0] + " has no place " + i, States::rich, x -> x.element(size[0], i), Long.MIN_VALUE);
            }
        }
        for (int i : new int[] {0, -1, 60, MIN, MAX}) {
            refused("34: nothing there: -11 is ahead of -13", States::rich, x -> x.put(3, i, 1), -11);
            refused("34: a body: -12 is ahead of -13", States::rich, x -> x.put(2, i, 1), -12);
            refused("35: nothing there", States::rich, x -> x.element(3, i), Long.MIN_VALUE);
            refused("35: a body", States::rich, x -> x.element(2, i), Long.MIN_VALUE);
        }
    }

    private static void putKeeps() {
        long[] values = {
            0, 1, -1, 127, 128, 129, 255, 256, 257, -128, -129, -256, 32767, 32768, 65535, 65536, 65537, -32768, -32769, 2147483647L, 2147483648L,
            4294967295L, 4294967296L, 4294967297L, -2147483648L, -2147483649L, Long.MAX_VALUE, Long.MIN_VALUE + 1, Long.MIN_VALUE, 1L << 40,
        };
        for (long v : values) {
            long[] kept = {lowest(v, 8), lowest(v, 16), lowest(v, 32), v, v == 0 ? 0 : 1};
            for (int sort = BYTES; sort <= BOOLEANS; sort++) {
                NeverInLine x = new NeverInLine();
                x.row(1, sort, 3);
                due("34: put " + v + " in sort " + sort, x.put(1, 1, v), 1);
                due("34: its lowest bits, " + v + " in sort " + sort, x.element(1, 1), kept[sort]);
                due("34: not beside it", x.element(1, 0) + x.element(1, 2), 0);
                x.put(1, 1, 0);
                due("34: 0 again", x.element(1, 1), 0);
            }
        }
    }

    /** The lowest bits of a long as a number with a sign. */
    private static long lowest(long v, int bits) {
        long whole = 1L << bits;
        long rest = Math.floorMod(v, whole);
        return rest >= whole / 2 ? rest - whole : rest;
    }

    private static void elementEdges() {
        NeverInLine x = Twins.made(States::rich);
        due("35: the first of shorts", x.element(0, 0), 400);
        due("35: the last of shorts", x.element(0, 6), 402);
        due("35: the last of ints", x.element(1, 3), -70000);
        due("35: the first of ints", x.element(1, 0), 0);
        due("35: true", x.element(4, 1), 1);
        due("35: false", x.element(4, 0), 0);
        due("35: the greatest long", x.element(5, 2), Long.MAX_VALUE);
        due("34: the least long", x.put(5, 2, Long.MIN_VALUE), 1);
        due("35: the least long", x.element(5, 2), Long.MIN_VALUE);
        TWINS.asks("35: element", States::rich, y -> y.element(5, 2));
    }

    // ---- promise 36

    /** Shelves: 0, 1 ints of 6 and 4 places, 2 shorts, 3 a body, 4 nothing, 5 ints of none. */
    private static void shelves(NeverInLine x) {
        x.body(2);
        x.row(0, INTS, 6);
        x.row(1, INTS, 4);
        x.row(2, SHORTS, 6);
        x.keep(3, 0);
        x.row(5, INTS, 0);
        for (int i = 0; i < 6; i++) {
            x.put(0, i, 10 + i);
            x.put(1, i, 20 + i);
            x.put(2, i, 30 + i);
        }
    }

    private static void shiftRefused() {
        for (int shelf : NO_SHELVES) {
            bad("36: shelf " + shelf, x -> x.shift(shelf, 0, 0, 0, 0));
            bad("36: other " + shelf, x -> x.shift(0, 0, shelf, 0, 0));
            refused("36: BAD is ahead of -11", ActEdgeTest::shelves, x -> x.shift(4, 0, shelf, 0, 0), BAD);
            refused("36: BAD is ahead of -12", ActEdgeTest::shelves, x -> x.shift(shelf, 0, 3, 0, 0), BAD);
        }
        int[][] rows = {
            // from, to, the answer wherever from and to, and however many
            {4, 0, -11}, {0, 4, -11}, {4, 4, -11}, {4, 3, -11}, {3, 4, -11}, {2, 4, -11}, {3, 0, -12}, {0, 3, -12}, {3, 3, -12}, {0, 2, -12}, {2, 0, -12}, {2, 5, -12}, {5, 2, -12},
        };
        int[][] places = {{0, 0, 0}, {0, 0, 1}, {-1, 0, 1}, {0, 60, 1}, {0, 0, -1}, {MIN, MAX, MIN}};
        for (int[] row : rows) {
            for (int[] place : places) {
                refused("36: from " + row[0] + " to " + row[1], ActEdgeTest::shelves, x -> x.shift(row[0], place[0], row[1], place[1], place[2]), row[2]);
            }
        }
        for (int sort = BYTES; sort <= BOOLEANS; sort++) {
            for (int other = BYTES; other <= BOOLEANS; other++) {
                NeverInLine x = new NeverInLine();
                x.row(0, sort, 2);
                x.row(1, other, 2);
                x.put(0, 1, 1);
                due("36: sort " + sort + " to " + other, x.shift(0, 1, 1, 0, 1), sort == other ? 1 : -12);
                due("36: it came", x.element(1, 0), sort == other ? 1 : 0);
            }
        }
    }

    private static void shiftPlaces() {
        int[][] wrong = {
            // i, j, n from 6 places to 4
            {-1, 0, 1}, {0, -1, 1}, {0, 0, -1}, {-1, 0, 0}, {0, -1, 0}, {6, 0, 1}, {7, 0, 0}, {0, 4, 1}, {0, 5, 0}, {0, 0, 5}, {2, 0, 5}, {5, 0, 2}, {0, 3, 2}, {3, 0, 4}, {0, 1, 4},
            {MIN, 0, 0}, {0, MIN, 0}, {0, 0, MIN}, {MAX, 0, 0}, {0, MAX, 0}, {0, 0, MAX}, {1, 0, MAX}, {0, 1, MAX}, {MAX, MAX, MAX}, {MAX, 0, 1}, {0, MAX, 1}, {MIN, MIN, MIN}, {MAX, 1, 2},
            {6, 4, 1}, {1, 1, -1}, {6, 4, -1}, {6, 4, MIN},
        };
        for (int[] w : wrong) {
            refused("36: a place that is not there: " + w[0] + ", " + w[1] + ", " + w[2], ActEdgeTest::shelves, x -> x.shift(0, w[0], 1, w[1], w[2]), -13);
        }
        int[][] right = {{0, 0, 0}, {6, 4, 0}, {6, 0, 0}, {0, 4, 0}, {0, 0, 4}, {2, 0, 4}, {5, 3, 1}, {5, 0, 1}, {0, 3, 1}, {1, 2, 2}};
        for (int[] r : right) {
            NeverInLine x = Twins.made(ActEdgeTest::shelves);
            due("36: " + r[0] + ", " + r[1] + ", " + r[2], x.shift(0, r[0], 1, r[1], r[2]), r[2]);
            for (int i = 0; i < 4; i++) {
                boolean came = i >= r[1] && i < r[1] + r[2];
                due("36: place " + i + " of the other", x.element(1, i), came ? 10 + r[0] + i - r[1] : 20 + i);
            }
            for (int i = 0; i < 6; i++) {
                due("36: place " + i + " is as it was", x.element(0, i), 10 + i);
            }
        }
        TWINS.asks("36: none, at the ends", ActEdgeTest::shelves, x -> x.shift(0, 6, 1, 4, 0));
        TWINS.asks("36: none of none", ActEdgeTest::shelves, x -> x.shift(5, 0, 5, 0, 0));
        refused("36: one of none", ActEdgeTest::shelves, x -> x.shift(5, 0, 0, 0, 1), -13);
        refused("36: one to none", ActEdgeTest::shelves, x -> x.shift(0, 0, 5, 0, 1), -13);
    }

    private static void shiftAsTheyWere() {
        for (int i = 0; i <= 6; i++) {
            for (int j = 0; j <= 6; j++) {
                int n = 6 - Math.max(i, j);
                NeverInLine x = Twins.made(ActEdgeTest::shelves);
                due("36: within one row from " + i + " to " + j, x.shift(0, i, 0, j, n), n);
                for (int k = 0; k < 6; k++) {
                    boolean came = k >= j && k < j + n;
                    due("36: as they all were before, " + i + " to " + j + " place " + k, x.element(0, k), came ? 10 + k - j + i : 10 + k);
                }
            }
        }
        NeverInLine longest = new NeverInLine();
        longest.row(0, LONGS, 60);
        longest.row(1, LONGS, 60);
        longest.put(0, 0, Long.MIN_VALUE);
        longest.put(0, 59, Long.MAX_VALUE);
        due("36: all sixty", longest.shift(0, 0, 1, 0, 60), 60);
        due("36: the first", longest.element(1, 0), Long.MIN_VALUE);
        due("36: the last", longest.element(1, 59), Long.MAX_VALUE);
        due("36: sixty-one", longest.shift(0, 0, 1, 0, 61), -13);
    }

    // ---- promise 37

    private static void takenRefused() {
        for (int shelf : NO_SHELVES) {
            bad("37: shelf " + shelf, x -> x.taken(shelf, 0));
        }
        for (int k : new int[] {-1, 8, MIN, MAX}) {
            bad("37: kind " + k, x -> x.taken(0, k));
            refused("37: BAD is ahead of -11, kind " + k, States::rich, x -> x.taken(3, k), BAD);
        }
        for (int k = 0; k < 8; k++) {
            int it = k;
            refused("37: nothing there", States::rich, x -> x.taken(3, it), -11);
            refused("37: a row", States::rich, x -> x.taken(0, it), -12);
            boolean above = k == 0 || k == 2 || k == 3;
            refused("37: kind 3 taken for " + k, States::rich, x -> x.taken(2, it), above ? 3 : -12);
        }
    }

    private static void takenKinds() {
        NeverInLine x = new NeverInLine();
        for (int kind = 7; kind >= 0; kind--) {
            x.body(kind);
        }
        String[] under = {"0", "01", "02", "023", "014", "0235", "06", "0147"};
        for (int body = 0; body < 8; body++) {
            int kind = 7 - body;
            x.keep(body % 6, body);
            for (int k = 0; k < 8; k++) {
                due("37: kind " + kind + " taken for " + k, x.taken(body % 6, k), under[kind].indexOf('0' + k) >= 0 ? kind : -12);
            }
        }
    }

    // ---- promise 38

    private static void countRefused() {
        for (int what : new int[] {-1, 8, 9, MIN, MAX}) {
            bad("38: what " + what, x -> x.count(what));
        }
        for (int what = 0; what < 8; what++) {
            int it = what;
            TWINS.asks("38: count " + what, States::rich, x -> x.count(it));
        }
    }

    private static void countAll() {
        NeverInLine full = Twins.made(States::full);
        int[] most = {10, 4, 8, 10, 120, 40, 50, 8};
        full.act(4, 3, 0);
        for (int what = 0; what < 8; what++) {
            due("38: all full, " + what, full.count(what), most[what]);
        }
        NeverInLine rich = Twins.made(States::rich);
        int[] some = {4, 2, 2, 2, 4, 3, 8, 14};
        for (int what = 0; what < 8; what++) {
            due("38: some, " + what, rich.count(what), some[what]);
        }
        NeverInLine fresh = new NeverInLine();
        ToLongFunction<NeverInLine> all = x -> {
            long sum = 0;
            for (int what = 0; what < 8; what++) {
                sum = 100 * sum + x.count(what);
            }
            return sum;
        };
        due("38: nothing", all.applyAsLong(fresh), 0);
        fresh.tower(5, 0);
        due("38: a tower", fresh.count(0), 1);
        fresh.road(0, 1);
        due("38: a road", fresh.count(1), 1);
        fresh.forest(0, 1);
        due("38: a forest", fresh.count(2), 1);
        fresh.sight(0, 0);
        due("38: a sight", fresh.count(3), 1);
        fresh.feed(0);
        due("38: a byte", fresh.count(4), 1);
        fresh.mend(0, 0, 1);
        due("38: a change", fresh.count(5), 1);
        fresh.body(0);
        due("38: a body", fresh.count(6), 1);
        fresh.act(0, 0, 0);
        due("38: a body that ran", fresh.count(7), 1);
        due("38: one of each", all.applyAsLong(fresh), 101010101010101L);
    }
}

import java.util.Arrays;

/** Promises 1 to 10, law and tape apart: the least and the greatest that is taken, what lies beyond, nothing there, all full. */
final class PlainEdgeTest extends Edges {
    private static final int[] NO_POINTS = {-1, -30, -900, 900, 901, 930, MIN, MAX};

    private PlainEdgeTest() { }

    public static void main(String[] args) {
        newObject();
        points();
        towerNumbers();
        towerFull();
        towersRefused();
        towersWithin();
        towersNotSo();
        towersFull();
        roads();
        roadsFull();
        corners();
        cornersFull();
        forests();
        forestsFull();
        mendEdges();
        mendRefused();
        ofEdges();
        CHECK.end();
    }

    // ---- promise 1

    private static void newObject() {
        NeverInLine x = new NeverInLine();
        for (int what = 0; what < 8; what++) {
            due("1: an empty plain, count " + what, x.count(what), 0);
        }
        for (int number = 0; number < 10; number++) {
            for (int what = 0; what < 4; what++) {
                due("1: no tower " + number, x.of(number, what), BAD);
            }
            due("1: no road " + number, x.of(number, 10), BAD);
        }
        for (int shelf = 0; shelf < 6; shelf++) {
            due("1: shelves hold nothing at first", x.taken(shelf, 0), -11);
            due("1: nor a row", x.put(shelf, 0, 0), -11);
        }
        due("1: no trace", x.trace(0), BAD);
        due("1: nothing to undo", x.undo(), STATE);
        due("1: nothing to redo", x.redo(), STATE);
        due("1: nothing seen", x.seen(899), 0);
        due("1: no guilts", x.guilts(-1), 0);
        due("1: all is lawful", x.which(0), NOT);
        due("1: the tape is empty", x.law(), -100);
        NeverInLine other = new NeverInLine();
        x.tower(0, 0);
        due("1: each object is its own", other.count(0), 0);
        due("1: without a text b is no more than a and 3", lineOf(0, 3), 1);
        due("1: without a text b is more than a and 3", lineOf(0, 4), 0);
        due("1: without a text, the nearer one higher", lineOf(9, 0), 1);
        due("1: without a text, 6 and 9", lineOf(6, 9), 1);
        due("1: without a text, 5 and 9", lineOf(5, 9), 0);
    }

    private static int lineOf(int a, int b) {
        NeverInLine x = new NeverInLine();
        x.tower(p(1, 0), 1000 * a);
        x.tower(p(2, 0), 1000 * b);
        return x.line(1, 0, 0);
    }

    // ---- terms 1: points

    private static void points() {
        for (int no : NO_POINTS) {
            bad("1: tower at " + no, x -> x.tower(no, 0));
            bad("1: road from " + no, x -> x.road(no, 5));
            bad("1: road to " + no, x -> x.road(5, no));
            bad("1: corner at " + no, x -> x.corner(0, no));
            bad("1: forest from " + no, x -> x.forest(no, 5));
            bad("1: forest to " + no, x -> x.forest(5, no));
        }
        NeverInLine x = new NeverInLine();
        due("1: tower at 0", x.tower(0, 0), 0);
        due("1: tower at 29", x.tower(29, 0), 1);
        due("1: tower at 30", x.tower(30, 0), 2);
        due("1: tower at 870", x.tower(870, 0), 3);
        due("1: tower at 899", x.tower(899, 0), 4);
        int[] at = {0, 29, 30, 870, 899};
        for (int t = 0; t < at.length; t++) {
            due("1: it is at " + at[t], x.of(t, 0), at[t]);
        }
        due("1: a road from 0 to 899", x.road(0, 899), 0);
        due("1: a road from 899 to 0", x.road(899, 0), 1);
        due("1: a corner at 0", x.corner(0, 0), 3);
        due("1: a corner at 899", x.corner(1, 899), 3);
        due("1: a forest from 0 to 899", x.forest(0, 899), 0);
        due("1: a forest from 899 to 0", x.forest(899, 0), 1);
    }

    // ---- promise 2

    private static void towerNumbers() {
        int[] wrong = {-1, -10, -1000, -9991, 2, 5, 9, 12, 992, 999, 1002, 9992, 9999, 10000, 10001, 19990, 100000, MIN, MIN + 8, MAX};
        for (int hp : wrong) {
            bad("2: hp " + hp, x -> x.tower(700, hp));
        }
        int[][] rows = {{0, 0, 0, 0}, {1, 0, 0, 1}, {10, 0, 1, 0}, {990, 0, 99, 0}, {991, 0, 99, 1}, {1000, 1, 0, 0}, {9000, 9, 0, 0}, {9001, 9, 0, 1}, {9990, 9, 99, 0}, {9991, 9, 99, 1}};
        for (int[] row : rows) {
            NeverInLine x = new NeverInLine();
            due("2: hp " + row[0], x.tower(7, row[0]), 0);
            for (int what = 1; what <= 3; what++) {
                due("2: hp " + row[0] + " is told as " + what, x.of(0, what), row[what]);
            }
        }
        refused("2: one is there", States::rich, x -> x.tower(p(5, 5), 0), BAD);
        refused("2: one is there, just such a one", States::three, x -> x.tower(p(15, 5), 3040), BAD);
        NeverInLine x = Twins.made(States::rich);
        due("2: at a corner of a road", x.tower(p(0, 0), 0), 4);
        due("2: at a forest's end", x.tower(p(7, 6), 0), 5);
        due("2: beside another one", x.tower(p(6, 5), 0), 6);
    }

    private static void towerFull() {
        NeverInLine x = new NeverInLine();
        for (int i = 0; i < 10; i++) {
            due("2: as they come", x.tower(899 - i, 0), i);
        }
        due("2: the eleventh", x.tower(5, 0), FULL);
        due("2: ten", x.count(0), 10);
        due("2: the last one stands as it stood", x.of(9, 0), 890);
        due("2: no tower 10", x.of(10, 0), BAD);
        refused("2: full", States::full, y -> y.tower(700, 9991), FULL);
        refused("2: BAD is ahead of FULL: one is there", States::full, y -> y.tower(p(5, 5), 0), BAD);
    }

    // ---- promise 3

    private static void towersRefused() {
        for (int shelf : new int[] {-1, 6, MIN, MAX}) {
            bad("3: shelf " + shelf, x -> x.towers(shelf, 0, 1));
        }
        for (int n : new int[] {0, 11, -1, MIN, MAX}) {
            bad("3: n " + n, x -> x.towers(0, 0, n));
            refused("3: n " + n + " where nothing is", States::rich, x -> x.towers(3, 0, n), BAD);
            refused("3: BAD is ahead of -12, n " + n, States::rich, x -> x.towers(1, 0, n), BAD);
        }
        for (int shelf : new int[] {1, 2, 4, 5}) {
            refused("3: no row of shorts on " + shelf, States::rich, x -> x.towers(shelf, 0, 1), -12);
            refused("3: no row of shorts on " + shelf + ", wherever from", States::rich, x -> x.towers(shelf, 60, 10), -12);
        }
        refused("3: no row of shorts, with ten towers", States::full, x -> x.towers(5, 0, 1), -12);
        for (int sort = 0; sort < 5; sort++) {
            int it = sort;
            refused("3: a row of sort " + sort + " without places", x -> x.row(0, it, 0), x -> x.towers(0, 0, 1), sort == 1 ? 0 : -12);
            refused("3: a row of sort " + sort, x -> x.row(0, it, 2), x -> x.towers(0, 0, 1), sort == 1 ? 0 : -12);
        }
        for (int i : new int[] {0, 1, 60, -1, MIN, MAX}) {
            refused("3: a shelf that holds nothing is missing", States::rich, x -> x.towers(3, i, 10), 0);
        }
        refused("3: nothing any more", x -> {
            x.row(0, 1, 3);
            x.keep(0, -1);
        }, x -> x.towers(0, 0, 1), 0);
    }

    private static NeverInLine withRow(int... cells) {
        NeverInLine x = new NeverInLine();
        x.row(2, 1, cells.length);
        for (int i = 0; i < cells.length; i++) {
            x.put(2, i, cells[i]);
        }
        return x;
    }

    private static void towersWithin() {
        int[] cells = {100, 1, 2, 101, 3, 4, 102, 5, 6};
        for (int size = 0; size <= 9; size++) {
            NeverInLine x = withRow(Arrays.copyOf(cells, size));
            due("3: a row of " + size, x.towers(2, 0, 10), size / 3);
            due("3: towers of it", x.count(0), size / 3);
        }
        for (int i = 0; i <= 9; i += 3) {
            NeverInLine x = withRow(cells);
            due("3: from place " + i, x.towers(2, i, 10), (9 - i) / 3);
            due("3: the first of them", x.of(0, 0), i < 9 ? 100 + i / 3 : BAD);
        }
        for (int i : new int[] {7, 8, 9, 10, 60, 61, MAX - 3, MAX - 2, MAX - 1, MAX, -1, -2, -3, MIN}) {
            NeverInLine x = withRow(cells);
            due("3: no whole three from " + i, x.towers(2, i, 10), 0);
            due("3: none came from " + i, x.count(0), 0);
        }
        due("3: from a place within a three", withRow(9, 100, 9, 99, 899, 0, 0, 300).towers(2, 1, 10), 2);
        for (int n = 1; n <= 3; n++) {
            NeverInLine x = withRow(cells);
            due("3: n " + n, x.towers(2, 0, n), n);
            due("3: no more than n", x.count(0), n);
        }
        NeverInLine x = withRow(cells);
        x.towers(2, 0, 10);
        due("3: not old", x.of(0, 3) + x.of(1, 3) + x.of(2, 3), 0);
        due("3: point, height, price", x.of(1, 0) * 10000 + x.of(1, 1) * 100 + x.of(1, 2), 1010304);
        NeverInLine longest = new NeverInLine();
        longest.row(5, 1, 60);
        longest.put(5, 57, 899);
        longest.put(5, 58, 9);
        longest.put(5, 59, 99);
        due("3: not from place 58", longest.towers(5, 58, 1), 0);
        due("3: the last three places of the longest row", longest.towers(5, 57, 10), 1);
        due("3: that one", longest.of(0, 0) * 1000 + longest.of(0, 1) * 100 + longest.of(0, 2), 899999);
    }

    private static void towersNotSo() {
        int[][] wrong = {{-1, 0, 0}, {900, 0, 0}, {-32768, 0, 0}, {32767, 0, 0}, {300, -1, 0}, {300, 10, 0}, {300, 0, -1}, {300, 0, 100}, {100, 0, 0}};
        for (int[] w : wrong) {
            NeverInLine x = withRow(100, 1, 2, w[0], w[1], w[2], 102, 5, 6);
            String row = w[0] + " " + w[1] + " " + w[2];
            due("3: not so: " + row, x.towers(2, 0, 3), 1);
            due("3: that ahead came: " + row, x.of(0, 0), 100);
            due("3: none behind it came: " + row, x.count(0), 1);
            due("3: the row is as it was: " + row, x.element(2, 3), w[0]);
        }
        int[][] right = {{0, 0, 0}, {899, 9, 99}, {899, 0, 0}, {0, 9, 99}};
        for (int[] r : right) {
            NeverInLine x = withRow(100, 1, 2, r[0], r[1], r[2]);
            due("3: so: " + r[0] + " " + r[1] + " " + r[2], x.towers(2, 0, 3), 2);
            due("3: its point", x.of(1, 0), r[0]);
            due("3: its height", x.of(1, 1), r[1]);
            due("3: its price", x.of(1, 2), r[2]);
        }
        NeverInLine wraps = withRow(65536 + 7, -65536 + 8, 131072 + 9);
        due("3: shorts keep their lowest bits", wraps.towers(2, 0, 1), 1);
        due("3: those", wraps.of(0, 0) * 100 + wraps.of(0, 1) * 10 + wraps.of(0, 2), 789);
        due("3: one of them comes to the point of another", withRow(5, 0, 0, 6, 0, 0, 5, 0, 0, 7, 0, 0).towers(2, 0, 4), 2);
    }

    private static void towersFull() {
        NeverInLine x = new NeverInLine();
        x.row(0, 1, 36);
        for (int i = 0; i < 12; i++) {
            x.put(0, 3 * i, 40 + i);
        }
        due("3: ten of them", x.towers(0, 0, 10), 10);
        due("3: ten stand", x.count(0), 10);
        due("3: full", x.towers(0, 30, 1), 0);
        due("3: no tower 10", x.of(10, 0), BAD);
        NeverInLine y = new NeverInLine();
        for (int i = 0; i < 9; i++) {
            y.tower(i, 0);
        }
        y.row(0, 1, 6);
        y.put(0, 0, 100);
        y.put(0, 3, 101);
        due("3: the tenth comes, then they are full", y.towers(0, 0, 2), 1);
        due("3: the tenth", y.of(9, 0), 100);
        refused("3: full at once", States::full, z -> z.towers(0, 0, 1), 0);
        refused("3: full, and none is there", States::full, z -> z.towers(4, 0, 1), 0);
    }

    // ---- promises 4, 5, 6

    private static void roads() {
        for (int point : new int[] {0, 5, 899}) {
            bad("4: alike, " + point, x -> x.road(point, point));
        }
        NeverInLine x = new NeverInLine();
        due("4: a step", x.road(5, 6), 0);
        due("4: back", x.road(6, 5), 1);
        due("4: the same again", x.road(5, 6), 2);
        due("4: two corners", x.of(2, 10), 2);
        due("4: its first", x.of(1, 20), 6);
        due("4: its last", x.of(1, 21), 5);
        due("4: no third", x.of(1, 22), BAD);
        NeverInLine y = new NeverInLine();
        y.tower(5, 0);
        due("4: from a tower's point", y.road(5, 6), 0);
    }

    private static void roadsFull() {
        NeverInLine x = new NeverInLine();
        for (int i = 0; i < 4; i++) {
            due("4: as they come", x.road(i, 899 - i), i);
        }
        due("4: the fifth", x.road(7, 8), FULL);
        due("4: four", x.count(1), 4);
        due("4: the last one is as it was", x.of(3, 20) * 1000 + x.of(3, 21), 3896);
        due("4: no road 4", x.of(4, 10), BAD);
        refused("4: full", States::full, y -> y.road(0, 899), FULL);
    }

    private static void corners() {
        for (int road : new int[] {-1, 4, 10, MIN, MAX}) {
            bad("5: road " + road, x -> x.corner(road, 7));
        }
        refused("5: no road yet", States::empty, x -> x.corner(0, 7), BAD);
        refused("5: no such road yet", States::rich, x -> x.corner(2, 7), BAD);
        refused("5: like the last of two", States::rich, x -> x.corner(1, p(29, 2)), BAD);
        refused("5: like the last of three", States::rich, x -> x.corner(0, p(29, 29)), BAD);
        NeverInLine x = Twins.made(States::rich);
        due("5: like the last of another road", x.corner(0, p(29, 2)), 4);
        due("5: like the first", x.corner(1, p(2, 2)), 3);
        due("5: like the last but one", x.corner(1, p(29, 2)), 4);
        due("5: it stands at the end", x.of(1, 23), p(29, 2));
        due("5: none beyond", x.of(1, 24), BAD);
        due("5: the other road is as it was", x.of(0, 10), 4);
    }

    private static void cornersFull() {
        NeverInLine x = new NeverInLine();
        x.road(0, 1);
        x.road(898, 899);
        for (int i = 3; i <= 6; i++) {
            due("5: how many it has", x.corner(0, i), i);
        }
        due("5: the seventh", x.corner(0, 7), FULL);
        due("5: six", x.of(0, 10), 6);
        due("5: the sixth is as it was", x.of(0, 25), 6);
        due("5: no seventh", x.of(0, 26), BAD);
        due("5: the next road's first corner is as it was", x.of(1, 20), 898);
        due("5: the next road has room", x.corner(1, 7), 3);
        refused("5: full", States::full, y -> y.corner(0, 7), FULL);
        refused("5: BAD is ahead of FULL: like the last", States::full, y -> y.corner(0, p(28, 25)), BAD);
        refused("5: BAD is ahead of FULL: no point", States::full, y -> y.corner(0, 900), BAD);
        due("5: with four roads another one has room", Twins.made(States::full).corner(3, 7), 3);
    }

    private static void forests() {
        for (int point : new int[] {0, 5, 899}) {
            bad("6: alike, " + point, x -> x.forest(point, point));
        }
        NeverInLine x = new NeverInLine();
        due("6: a step", x.forest(5, 6), 0);
        due("6: back", x.forest(6, 5), 1);
        due("6: the same again", x.forest(5, 6), 2);
        due("6: how many", x.count(2), 3);
    }

    private static void forestsFull() {
        NeverInLine x = new NeverInLine();
        x.tower(p(5, 0), 0);
        for (int i = 0; i < 8; i++) {
            due("6: as they come", x.forest(870 + i, 899), i);
        }
        due("6: the ninth", x.forest(p(3, 0), p(3, 1)), FULL);
        due("6: eight", x.count(2), 8);
        due("6: it stops no sight", x.seen(0), 1);
        refused("6: full", States::full, y -> y.forest(0, 899), FULL);
        NeverInLine eighth = new NeverInLine();
        eighth.tower(p(5, 0), 0);
        for (int i = 0; i < 7; i++) {
            eighth.forest(870 + i, 899);
        }
        eighth.forest(p(3, 0), p(3, 1));
        due("6: the eighth stops sight", eighth.seen(0), 0);
    }

    // ---- promise 9

    private static void mendEdges() {
        int[] most = {9, 99, 1};
        for (int what = 0; what < 3; what++) {
            NeverInLine x = new NeverInLine();
            x.tower(0, 5551);
            x.tower(899, 5551);
            int was = x.of(1, 1 + what);
            due("9: the greatest of " + what, x.mend(1, what, most[what]), was);
            due("9: it is", x.of(1, 1 + what), most[what]);
            due("9: the least of " + what, x.mend(1, what, 0), most[what]);
            due("9: it is 0", x.of(1, 1 + what), 0);
            due("9: the other tower's is as it was", x.of(0, 1 + what), was);
        }
        TWINS.asks("9: the same number changes nothing", States::rich, x -> x.mend(0, 0, 4));
        TWINS.asks("9: the same price changes nothing", States::rich, x -> x.mend(0, 1, 25));
        TWINS.asks("9: the same OLD changes nothing", States::rich, x -> x.mend(1, 2, 1));
        TWINS.asks("9: the same number changes nothing when 40 are kept", States::full, x -> x.mend(0, 1, 71));
        due("9: it answers what it was", Twins.made(States::rich).mend(0, 0, 4), 4);
    }

    private static void mendRefused() {
        for (int tower : new int[] {-1, 10, MIN, MAX}) {
            bad("9: tower " + tower, x -> x.mend(tower, 0, 0));
        }
        refused("9: no tower yet", States::empty, x -> x.mend(0, 0, 0), BAD);
        refused("9: no such tower yet", States::rich, x -> x.mend(4, 0, 0), BAD);
        for (int what : new int[] {-1, 3, 10, MIN, MAX}) {
            bad("9: what " + what, x -> x.mend(0, what, 0));
        }
        int[][] wrong = {{0, 10}, {0, -1}, {0, MIN}, {0, MAX}, {1, 100}, {1, -1}, {1, MIN}, {1, MAX}, {2, 2}, {2, -1}, {2, MIN}, {2, MAX}};
        for (int[] w : wrong) {
            bad("9: what " + w[0] + " becomes " + w[1], x -> x.mend(0, w[0], w[1]));
        }
    }

    // ---- promise 10

    private static void ofEdges() {
        int[] wrong = {-1, 4, 9, 11, 19, 26, 30, MIN, MIN + 20, MAX};
        for (int what : wrong) {
            bad("10: what " + what, x -> x.of(0, what));
        }
        for (int number : new int[] {-1, 10, MIN, MAX}) {
            bad("10: tower " + number, x -> x.of(number, 0));
            bad("10: road " + number, x -> x.of(number, 10));
            bad("10: road " + number + "'s corner", x -> x.of(number, 20));
        }
        refused("10: no such tower yet", States::rich, x -> x.of(4, 3), BAD);
        refused("10: no such road yet", States::rich, x -> x.of(2, 10), BAD);
        refused("10: a tower, but no such road", States::full, x -> x.of(4, 10), BAD);
        refused("10: no such corner yet", States::rich, x -> x.of(0, 23), BAD);
        NeverInLine x = Twins.made(States::rich);
        due("10: the first corner", x.of(0, 20), 0);
        due("10: the last corner", x.of(0, 22), p(29, 29));
        due("10: the last tower's", x.of(3, 0) * 10000 + x.of(3, 1) * 1000 + x.of(3, 2) * 10 + x.of(3, 3), 4659051);
        NeverInLine y = Twins.made(States::full);
        due("10: tower 9", y.of(9, 0), p(27, 20));
        due("10: road 3", y.of(3, 10), 2);
        due("10: road 0 has six", y.of(0, 10), 6);
        due("10: the sixth", y.of(0, 25), p(28, 25));
        for (int what : new int[] {0, 1, 2, 3, 10, 20, 21}) {
            TWINS.asks("10: what " + what, States::rich, z -> z.of(1, what));
        }
    }
}

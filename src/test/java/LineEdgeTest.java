/** Promises 11 to 16: towers in line, stopped, guilty, seen, at the edges of what counts. */
final class LineEdgeTest extends Edges {
    private LineEdgeTest() { }

    public static void main(String[] args) {
        lineRefused();
        linePlaces();
        lineWays();
        linePairs();
        stoppedWays();
        stoppedAlong();
        guiltyRefused();
        guiltyMeets();
        guiltyAlong();
        guiltyStopped();
        guiltyStoppedAlong();
        stretchesOfRoads();
        behindTheLastCorner();
        guiltsRefused();
        guiltsAll();
        whichEdges();
        whichOrder();
        ledEdges();
        seenEdges();
        seenHidden();
        seenStopped();
        CHECK.end();
    }

    /** Towers 0 and 1 of height 0 at two points. */
    private static NeverInLine two(int s, int t) {
        NeverInLine x = new NeverInLine();
        x.tower(s, 0);
        x.tower(t, 0);
        return x;
    }

    // ---- promise 11

    private static void lineRefused() {
        for (int ab : new int[] {-1, -10, 0, 11, 99, 100, 101, 110, 990, MIN, MIN + 1, MAX}) {
            bad("11: ab " + ab, x -> x.line(ab, 150, 0));
        }
        for (int ab : new int[] {4, 40, 44, 39, 93}) {
            refused("11: no such tower yet, ab " + ab, States::rich, x -> x.line(ab, 150, 0), BAD);
        }
        for (int point : new int[] {-1, 900, MIN, MAX}) {
            bad("11: point " + point, x -> x.line(1, point, 0));
        }
        for (int k : new int[] {-1, 5, 10, MIN, MAX}) {
            bad("11: k " + k, x -> x.line(1, 150, k));
        }
        refused("11: one tower alone", x -> x.tower(5, 0), x -> x.line(1, 0, 0), BAD);
        for (int k = 0; k <= 4; k++) {
            due("11: road " + k + " need not be there", Twins.made(States::three).line(1, p(0, 5), k), 1);
        }
        TWINS.asks("11: line", States::rich, x -> x.line(1, 150, 4));
    }

    private static void linePlaces() {
        NeverInLine x = two(p(10, 5), p(20, 5));
        int[][] rows = {{0, 1}, {9, 1}, {10, 0}, {11, 0}, {15, 0}, {19, 0}, {20, 0}, {21, 1}, {29, 1}};
        for (int[] row : rows) {
            due("2: from x " + row[0] + " in their row", x.line(1, p(row[0], 5), 0), row[1]);
            due("2: beside their row", x.line(1, p(row[0], 4), 0) + x.line(1, p(row[0], 6), 0), 0);
        }
        NeverInLine beside = two(p(10, 5), p(11, 5));
        due("2: two side by side, from the next point", beside.line(1, p(9, 5), 0) + beside.line(1, p(12, 5), 0), 2);
        NeverInLine far = two(0, 899);
        due("2: from one of theirs", far.line(1, 0, 0) + far.line(1, 899, 0), 0);
        due("2: between", far.line(1, p(15, 15), 0), 0);
        NeverInLine corner = two(p(1, 1), p(29, 29));
        due("2: from 0", corner.line(1, 0, 0), 1);
        due("2: from a point beside the line, hardly", corner.line(1, 1, 0), 0);
        NeverInLine last = two(p(27, 28), p(25, 27));
        due("2: from 899 by two and one", last.line(1, 899, 0), 1);
        due("2: not from beside", last.line(1, 898, 0), 0);
    }

    private static void lineWays() {
        int[][] ways = {{1, 0}, {0, 1}, {1, 1}, {1, -1}, {-1, 0}, {0, -1}, {-1, 1}, {-1, -1}, {1, 2}, {2, 1}, {-1, 2}, {2, -1}, {-2, -1}, {3, -2}, {-3, 4}};
        for (int[] way : ways) {
            int from = p(15, 15);
            int near = p(15 + way[0], 15 + way[1]);
            int far = p(15 + 3 * way[0], 15 + 3 * way[1]);
            String told = " by " + way[0] + ", " + way[1];
            NeverInLine x = two(near, far);
            due("2: in line" + told, x.line(1, from, 0), 1);
            due("2: the other one named first" + told, x.line(10, from, 0), 1);
            due("2: between" + told, two(far, p(15 - way[0], 15 - way[1])).line(1, from, 0), 0);
            x.mend(1, 0, 4);
            due("2: nearer 0, further 4" + told, x.line(1, from, 0), 0);
            due("2: nearer 0, further 4, the other named first" + told, x.line(10, from, 0), 0);
            x.mend(0, 0, 8);
            due("2: nearer 8, further 4" + told, x.line(10, from, 0), 1);
            States.law(x, "a=8&b=4&n=0&m=1");
            due("2: named a, b" + told, x.line(10, from, 0), 1);
            x.forest(near, p(15 + way[0], 0 + 29 * ((15 + way[1]) % 2)));
            due("2: a forest at the nearer one stops the way to the further one" + told, x.line(1, from, 0), 0);
        }
    }

    private static void linePairs() {
        NeverInLine x = new NeverInLine();
        for (int t = 0; t < 10; t++) {
            x.tower(p(2 * t + 1, 7), 0);
        }
        int sum = 0;
        for (int ab = 0; ab < 100; ab++) {
            int got = x.line(ab, p(0, 7), 0);
            sum += got;
            due("11: ab " + ab, got, ab % 11 == 0 ? BAD : 1);
        }
        due("11: ninety pairs, and ten of one and the same", sum, 90 + 10 * BAD);
    }

    // ---- terms 1: stopped

    private static void stoppedWays() {
        int[][] rows = {
            // A forest's ends; whether towers at (10, 5), (20, 5) are in line from (4, 5).
            {p(7, 4), p(7, 6), 0}, {p(7, 5), p(7, 6), 0}, {p(7, 4), p(7, 5), 0}, {p(7, 6), p(7, 7), 1}, {p(7, 3), p(7, 4), 1},
            {p(4, 4), p(4, 6), 1}, {p(4, 5), p(4, 6), 1}, {p(4, 0), p(4, 5), 1}, {p(3, 4), p(3, 6), 1}, {p(3, 4), p(5, 6), 1},
            {p(5, 4), p(5, 6), 0}, {p(5, 5), p(6, 20), 0}, {p(9, 4), p(9, 6), 0}, {p(10, 4), p(10, 6), 0}, {p(10, 5), p(10, 6), 0},
            {p(9, 4), p(11, 6), 0}, {p(15, 4), p(15, 6), 0}, {p(19, 4), p(19, 6), 0}, {p(20, 4), p(20, 6), 1}, {p(20, 5), p(20, 6), 1},
            {p(19, 4), p(21, 6), 1}, {p(21, 4), p(21, 6), 1}, {p(7, 4), p(8, 6), 0}, {p(3, 4), p(4, 6), 1}, {p(4, 4), p(5, 6), 0},
            {p(20, 4), p(21, 6), 1}, {p(19, 4), p(20, 6), 0}, {p(0, 4), p(29, 4), 1}, {p(0, 6), p(29, 6), 1}, {p(0, 5), p(4, 6), 1},
            {p(0, 4), p(29, 5), 1}, {p(0, 4), p(29, 6), 0}, {p(0, 4), p(7, 5), 0}, {p(0, 4), p(4, 5), 1}, {p(29, 6), p(20, 5), 1},
            {p(0, 0), p(9, 4), 1}, {p(0, 0), p(29, 29), 0}, {p(0, 29), p(29, 0), 1}, {p(0, 1), p(4, 5), 1}, {p(0, 2), p(29, 29), 1},
        };
        for (int[] row : rows) {
            NeverInLine x = two(p(10, 5), p(20, 5));
            x.forest(row[0], row[1]);
            due("1: a forest " + row[0] + " to " + row[1], x.line(1, p(4, 5), 0), row[2]);
            NeverInLine turned = two(p(10, 5), p(20, 5));
            turned.forest(row[1], row[0]);
            due("1: a forest " + row[1] + " to " + row[0], turned.line(10, p(4, 5), 0), row[2]);
            NeverInLine steep = two(steep(p(10, 5)), steep(p(20, 5)));
            steep.forest(steep(row[0]), steep(row[1]));
            due("1: x for y, a forest " + row[0] + " to " + row[1], steep.line(1, steep(p(4, 5)), 0), row[2]);
        }
    }

    /** x for y, and y for x. */
    private static int steep(int point) {
        return p(point / 30, point % 30);
    }

    private static void stoppedAlong() {
        int[][] rows = {
            // A forest in row 5 from x to x; whether towers at (10, 5), (20, 5) are in line from (4, 5).
            {0, 3, 1}, {0, 4, 1}, {3, 4, 1}, {0, 5, 0}, {4, 5, 0}, {5, 6, 0}, {9, 10, 0}, {10, 11, 0}, {4, 20, 0}, {0, 29, 0}, {19, 20, 0}, {5, 19, 0},
            {19, 29, 0}, {20, 21, 1}, {20, 29, 1}, {21, 29, 1}, {3, 21, 0}, {4, 10, 0},
        };
        for (int[] row : rows) {
            NeverInLine x = two(p(10, 5), p(20, 5));
            x.forest(p(row[0], 5), p(row[1], 5));
            due("1: a forest along, x " + row[0] + " to " + row[1], x.line(1, p(4, 5), 0), row[2]);
            NeverInLine back = two(p(20, 5), p(10, 5));
            back.forest(p(row[1], 5), p(row[0], 5));
            due("1: a forest along, x " + row[1] + " to " + row[0], back.line(1, p(4, 5), 0), row[2]);
            NeverInLine steep = two(p(5, 10), p(5, 20));
            steep.forest(p(5, row[0]), p(5, row[1]));
            due("1: a forest along, y " + row[0] + " to " + row[1], steep.line(1, p(5, 4), 0), row[2]);
        }
        NeverInLine slant = two(p(4, 2), p(8, 4));
        slant.forest(p(8, 4), p(20, 10));
        due("1: slant, from the further one on", slant.line(1, 0, 0), 1);
        slant.forest(p(6, 3), p(20, 10));
        due("1: slant, from between on", slant.line(1, 0, 0), 0);
    }

    // ---- promise 12

    private static void guiltyRefused() {
        for (int ri : new int[] {-1, -10, 5, 6, 9, 11, 15, 19, 40, 41, 100, MIN, MIN + 8, MAX}) {
            bad("12: ri " + ri, x -> x.guilty(ri, 1, 0));
        }
        for (int ri : new int[] {2, 3, 11, 20, 30}) {
            refused("12: no such stretch or road yet, ri " + ri, States::rich, x -> x.guilty(ri, 1, 0), BAD);
        }
        for (int ab : new int[] {-1, 0, 11, 99, 100, MIN, MAX}) {
            bad("12: ab " + ab, x -> x.guilty(0, ab, 0));
        }
        refused("12: no such tower yet", States::rich, x -> x.guilty(0, 4, 0), BAD);
        for (int part : new int[] {-1, 2, MIN, MAX}) {
            bad("12: part " + part, x -> x.guilty(0, 1, part));
        }
        refused("12: BAD is ahead of NOT", x -> {
            States.three(x);
            x.road(0, 1);
        }, x -> x.guilty(0, 1, 2), BAD);
        refused("12: NOT", x -> {
            States.three(x);
            x.road(0, 1);
        }, x -> x.guilty(0, 1, 1), NOT);
        TWINS.asks("12: guilty", States::rich, x -> x.guilty(0, 12, 0));
        NeverInLine sixth = Twins.made(States::full);
        States.law(sixth, "0");
        due("12: the last stretch of six corners", sixth.guilty(4, 98, 0), NOT);
        due("12: none beyond", sixth.guilty(5, 98, 0), BAD);
    }

    /** What a road from a to b is told by guilty: 10000 times above, and below; NOT. */
    private static int fraction(NeverInLine x, int a, int b) {
        int road = x.road(a, b);
        int above = x.guilty(10 * road, 1, 0);
        int below = x.guilty(10 * road, 1, 1);
        due("12: turned, above", x.guilty(10 * road, 10, 0), above);
        due("12: turned, below", x.guilty(10 * road, 10, 1), below);
        due("13: as many guilts", x.guilts(road), above == NOT ? 0 : 1);
        return above == NOT && below == NOT ? NOT : 10000 * above + below;
    }

    private static void guiltyMeets() {
        int[][] rows = {
            // A road's ends and the fraction where towers at (10, 5), (20, 5) are in line.
            {p(4, 5), p(4, 9), 0, 1}, {p(4, 0), p(4, 5), 1, 1}, {p(4, 4), p(4, 6), 1, 2}, {p(4, 6), p(4, 9), NOT, 0}, {p(4, 0), p(4, 4), NOT, 0},
            {p(4, 0), p(4, 29), 5, 29}, {p(4, 29), p(4, 0), 24, 29}, {p(4, 0), p(4, 15), 1, 3}, {p(4, 4), p(4, 29), 1, 25}, {p(4, 3), p(4, 13), 1, 5},
            {p(0, 0), p(9, 6), 5, 6}, {p(0, 4), p(29, 6), NOT, 0}, {p(9, 4), p(10, 29), 1, 25}, {p(9, 4), p(10, 5), NOT, 0}, {p(9, 4), p(10, 6), 1, 2},
            {p(9, 4), p(11, 6), NOT, 0}, {p(10, 0), p(10, 29), NOT, 0}, {p(20, 0), p(20, 29), NOT, 0}, {p(15, 0), p(15, 29), NOT, 0}, {p(21, 4), p(21, 6), 1, 2},
            {p(20, 4), p(21, 6), 1, 2}, {p(19, 4), p(20, 6), NOT, 0}, {p(0, 4), p(29, 4), NOT, 0}, {p(0, 6), p(29, 6), NOT, 0}, {p(0, 0), p(29, 29), 5, 29}, {p(0, 0), p(29, 12), NOT, 0},
            {p(29, 29), p(29, 5), 1, 1}, {p(29, 5), p(0, 29), 0, 1}, {p(10, 5), p(10, 9), NOT, 0}, {p(10, 9), p(20, 5), NOT, 0},
            {p(10, 5), p(0, 9), NOT, 0}, {p(15, 5), p(0, 9), NOT, 0}, {p(20, 5), p(29, 9), NOT, 0}, {p(0, 9), p(15, 5), NOT, 0}, {p(29, 9), p(20, 5), NOT, 0},
            {p(0, 29), p(1, 0), 24, 29},
        };
        for (int[] row : rows) {
            int want = row[2] == NOT ? NOT : 10000 * row[2] + row[3];
            due("12: from " + row[0] + " to " + row[1], fraction(two(p(10, 5), p(20, 5)), row[0], row[1]), want);
            due("12: x for y, from " + row[0] + " to " + row[1], fraction(two(steep(p(20, 5)), steep(p(10, 5))), steep(row[0]), steep(row[1])), want);
        }
        // The line through (1, 0) and (29, 29) leaves the plain at (1, 0), hardly beside the way from (0, 0) to (1, 29).
        due("12: hardly beside", fraction(two(p(1, 0), p(29, 29)), 0, p(1, 29)), NOT);
        due("12: just at a tower", fraction(two(p(1, 0), p(29, 29)), 0, p(29, 0)), NOT);
        // Through (1, 1), (2, 29): y - 1 = 28 (x - 1); on y = 0 it is at x = 27 / 28, of the way from (0, 0) to (29, 0) 27 / 812.
        due("12: a fraction with a great divisor", fraction(two(p(1, 1), p(2, 29)), 0, p(29, 0)), 270812);
        due("12: the same from behind", fraction(two(p(1, 1), p(2, 29)), p(29, 0), 0), 10000 * 785 + 812);
    }

    private static void guiltyAlong() {
        int[][] rows = {
            // A road in row 5 from x to x, and the fraction where towers at (10, 5), (20, 5) are in line.
            {0, 9, 0, 1}, {9, 0, 0, 1}, {0, 10, 0, 1}, {10, 0, 1, 1}, {0, 15, 0, 1}, {15, 0, 1, 1}, {0, 29, 0, 1}, {10, 20, NOT, 0}, {20, 10, NOT, 0}, {11, 19, NOT, 0},
            {10, 21, 1, 1}, {15, 29, 1, 1}, {20, 21, 1, 1}, {21, 20, 0, 1}, {9, 21, 0, 1}, {21, 9, 0, 1}, {10, 11, NOT, 0}, {19, 20, NOT, 0}, {28, 29, 0, 1},
        };
        for (int[] row : rows) {
            int want = row[2] == NOT ? NOT : 10000 * row[2] + row[3];
            due("12: along, x " + row[0] + " to " + row[1], fraction(two(p(10, 5), p(20, 5)), p(row[0], 5), p(row[1], 5)), want);
            due("12: along, y " + row[0] + " to " + row[1], fraction(two(p(5, 20), p(5, 10)), p(5, row[0]), p(5, row[1])), want);
        }
        NeverInLine law = two(p(10, 5), p(20, 5));
        law.mend(1, 0, 9);
        due("12: along, the law lets it count from the last corner", fraction(law, p(0, 5), p(29, 5)), 10001);
        NeverInLine forest = two(p(10, 5), p(20, 5));
        forest.forest(p(3, 4), p(3, 6));
        due("12: along, a forest ahead of the first corner", fraction(forest, p(0, 5), p(7, 5)), 10001);
        due("12: along, in line from the middle alone", fraction(forest, p(0, 5), p(15, 5)), NOT);
        due("12: along, the forest at the last corner", fraction(forest, p(0, 5), p(3, 5)), 10001);
        due("12: along, both behind the forest", fraction(forest, p(0, 5), p(2, 5)), NOT);
    }

    private static void guiltyStopped() {
        int[][] rows = {
            // The line y = x / 2 through (10, 5), (12, 6) meets the way from (5, 0) to (5, 5) at (5, 2.5); forests there.
            {p(5, 2), p(5, 3), 1}, {p(4, 2), p(5, 3), 1}, {p(4, 2), p(6, 3), 0}, {p(5, 3), p(6, 2), 0}, {p(6, 3), p(6, 2), 0}, {p(6, 3), p(7, 3), 0}, {p(6, 2), p(7, 3), 1},
            {p(4, 2), p(2, 1), 1}, {p(8, 4), p(6, 3), 0}, {p(12, 6), p(14, 7), 1}, {p(10, 5), p(12, 6), 0}, {p(0, 2), p(29, 3), 1}, {p(0, 2), p(29, 9), 0}, {p(11, 5), p(11, 6), 0},
            {p(12, 6), p(12, 29), 1}, {p(10, 5), p(10, 0), 0}, {p(13, 6), p(13, 7), 1},
        };
        for (int[] row : rows) {
            NeverInLine x = two(p(10, 5), p(12, 6));
            x.forest(row[0], row[1]);
            due("12: a forest " + row[0] + " to " + row[1], fraction(x, p(5, 0), p(5, 5)), row[2] == 1 ? 10002 : NOT);
        }
    }

    /** From where a road meets the line between whole points, past forests that lie on the line. */
    private static void guiltyStoppedAlong() {
        int[][] rows = {
            // A forest on the line, as times of its step; whether it stops the way from 2.5 steps on to the towers 5 and 6 steps on.
            {0, 2, 1}, {0, 3, 0}, {1, 2, 1}, {2, 3, 0}, {3, 4, 0}, {4, 5, 0}, {5, 6, 0}, {5, 7, 0}, {6, 7, 1}, {7, 8, 1}, {0, 14, 0}, {3, 14, 0},
        };
        for (int[] row : rows) {
            int want = row[2] == 1 ? 10002 : NOT;
            String told = row[0] + " to " + row[1];
            due("12: slant, a forest " + told, onLine(0, 2, 1, row, p(5, 0), p(5, 5)), want);
            due("12: steep, a forest " + told, onLine(0, 1, 2, row, p(0, 5), p(5, 5)), want);
            due("12: upright, a forest " + told, onLine(1, 0, 1, row, p(0, 2), p(2, 3)), want);
            due("12: level, a forest " + told, onLine(30, 1, 0, row, p(2, 0), p(3, 2)), want);
        }
    }

    /** The fraction where a road across the line, 2.5 steps behind its beginning, sees towers 5 and 6 steps on in line. */
    private static int onLine(int begin, int dx, int dy, int[] row, int a, int b) {
        int step = p(dx, dy);
        NeverInLine x = two(begin + 5 * step, begin + 6 * step);
        x.forest(begin + row[1] * step, begin + row[0] * step);
        return fraction(x, a, b);
    }

    /** Each road has its own corners, however many the others have. */
    private static void stretchesOfRoads() {
        for (int many = 0; many < 4; many++) {
            NeverInLine x = Twins.made(States::three);
            for (int r = 0; r < 4; r++) {
                x.road(p(0, 5), p(1, 5));
                for (int i = 0; r == many && i < 4; i++) {
                    x.corner(r, p(i % 2, 5));
                }
            }
            for (int r = 0; r < 4; r++) {
                for (int i = 0; i < 10; i++) {
                    int last = r == many ? 4 : 0;
                    due("12: road " + r + "'s stretch " + i, x.guilty(10 * r + i, 12, 1), i <= last ? 1 : BAD);
                    due("22: road " + r + "'s stretch " + i, x.bent(10 * r + i, 1), i > last ? BAD : r == many ? STATE : 24 + 3);
                }
            }
        }
    }

    /** No stretch leads from a road's last corner on, to (0, 0) or to the next road's first corner. */
    private static void behindTheLastCorner() {
        for (int more = 0; more < 4; more += 3) {
            NeverInLine x = Twins.made(States::three);
            x.road(p(0, 9), p(1, 9));
            for (int i = 0; i <= more; i++) {
                x.corner(0, p(i % 2, 9));
            }
            x.road(p(1, 0), p(2, 0));
            due("13: no guilts", x.guilts(-1) + x.guilts(0) + x.guilts(1), 0);
            due("14: all is lawful", x.which(0), NOT);
            due("15: none", x.led(0) + x.led(1) + x.led(2), 0);
            due("19: none has to go", x.fewest() + x.cheapest(0) + x.cheapest(1), 0);
            due("21: in its row", x.moved(2, 1009), 0);
            due("17: free in their row", x.free(5, 0, 0), 27);
        }
    }

    // ---- promises 13, 14, 15

    private static void guiltsRefused() {
        for (int road : new int[] {-2, 4, 10, MIN, MAX}) {
            bad("13: road " + road, x -> x.guilts(road));
        }
        refused("13: no road yet", States::empty, x -> x.guilts(0), BAD);
        refused("13: no such road yet", States::rich, x -> x.guilts(2), BAD);
        TWINS.asks("13: guilts", States::rich, x -> x.guilts(-1));
    }

    private static void guiltsAll() {
        NeverInLine x = new NeverInLine();
        due("13: nothing there", x.guilts(-1), 0);
        for (int t = 0; t < 10; t++) {
            x.tower(p(10 + t, 5), 0);
        }
        due("13: no roads", x.guilts(-1), 0);
        for (int r = 0; r < 4; r++) {
            x.road(p(0, 5), p(1, 5));
            for (int i = 0; i < 4; i++) {
                x.corner(r, p(i % 2, 5));
            }
            due("13: forty-five pairs on five stretches", x.guilts(r), 225);
            due("13: of all", x.guilts(-1), 225 * (r + 1));
        }
        for (int t = 0; t < 10; t++) {
            due("15: nine pairs on twenty stretches", x.led(t), 180);
        }
        for (int ab = 0; ab < 100; ab++) {
            due("12: each pair, " + ab, x.guilty(34, ab, 0) * 10 + x.guilty(34, ab, 1), ab % 11 == 0 ? 11 * BAD : 1);
        }
        NeverInLine y = Twins.made(States::three);
        y.road(p(0, 0), p(0, 5));
        due("13: at an end: once for each pair", y.guilts(0), 3);
        y.corner(0, p(0, 9));
        due("13: at a corner: on both stretches", y.guilts(0), 6);
        y.corner(0, p(0, 6));
        due("13: not on one beside", y.guilts(0), 6);
        NeverInLine one = new NeverInLine();
        one.tower(p(5, 5), 0);
        one.road(p(0, 5), p(1, 5));
        due("13: one tower alone", one.guilts(-1), 0);
    }

    private static void whichEdges() {
        for (int what : new int[] {-1, 4, 10, MIN, MAX}) {
            bad("14: what " + what, x -> x.which(what));
        }
        for (int what = 0; what < 4; what++) {
            int it = what;
            refused("14: all is lawful", States::three, x -> x.which(it), NOT);
            refused("14: nothing there", States::empty, x -> x.which(it), NOT);
            TWINS.asks("14: which", States::rich, x -> x.which(it));
        }
        NeverInLine four = Twins.made(x -> {
            States.full(x);
            x.law();
            States.law(x, "0");
        });
        due("14: four roads, ten towers, all lawful", four.which(0), NOT);
    }

    private static int told(NeverInLine x) {
        return 1000 * x.which(0) + 100 * x.which(1) + 10 * x.which(2) + x.which(3);
    }

    private static void whichOrder() {
        NeverInLine x = new NeverInLine();
        for (int t = 0; t < 10; t++) {
            x.tower(p(10 + t, 5), 0);
        }
        for (int r = 0; r < 4; r++) {
            x.road(p(0, 5), p(1, 5));
            for (int i = 0; i < 4; i++) {
                x.corner(r, p(i % 2, 5));
            }
        }
        due("14: the first of all", told(x), 1);
        String[] laws = {"k>0", "k=3", "n>0", "n=0&m>1|n>3", "n=8", "m=9", "k=3&n=8"};
        int[] first = {1001, 3001, 12, 2, 89, 9, 3089};
        for (int i = 0; i < laws.length; i++) {
            States.law(x, laws[i]);
            due("14: by " + laws[i], told(x), first[i]);
        }
        NeverInLine y = Twins.made(States::three);
        y.road(p(0, 0), p(0, 1));
        y.road(p(0, 0), p(0, 1));
        for (int i = 0; i < 4; i++) {
            y.corner(1, i == 3 ? p(0, 5) : p(0, 2 + i));
        }
        y.mend(0, 0, 9);
        y.mend(1, 0, 0);
        y.mend(2, 0, 9);
        due("14: the last stretch, the pairs 0 and 1, 0 and 2", told(y), 1401);
        y.mend(0, 0, 0);
        States.law(y, "b>a");
        due("14: the pair 0 and 2 ahead of 1 and 2", told(y), 1402);
    }

    private static void ledEdges() {
        for (int tower : new int[] {-1, 10, MIN, MAX}) {
            bad("15: tower " + tower, x -> x.led(tower));
        }
        refused("15: no tower yet", States::empty, x -> x.led(0), BAD);
        refused("15: no such tower yet", States::rich, x -> x.led(4), BAD);
        due("15: in none", Twins.made(States::three).led(2), 0);
        TWINS.asks("15: led", States::rich, x -> x.led(1));
        NeverInLine x = Twins.made(States::three);
        x.road(p(29, 5), p(29, 9));
        States.law(x, "n=1");
        due("15: as the lesser and as the other", x.led(0) * 100 + x.led(1) * 10 + x.led(2), 11);
        NeverInLine within = Twins.made(States::three);
        within.road(p(0, 0), p(0, 29));
        within.road(p(29, 29), p(29, 1));
        due("15: within a stretch", within.led(0) * 100 + within.led(1) * 10 + within.led(2), 444);
        due("19: within a stretch", within.fewest(), 3);
        due("20: within a stretch", within.cheapest(0), 3);
    }

    // ---- promise 16

    private static void seenEdges() {
        for (int point : new int[] {-1, 900, MIN, MAX}) {
            bad("16: point " + point, x -> x.seen(point));
        }
        NeverInLine x = new NeverInLine();
        due("16: no towers", x.seen(0) + x.seen(899), 0);
        x.tower(0, 0);
        due("16: at it", x.seen(0), 0);
        due("16: beside it", x.seen(1), 1);
        due("16: from the last point", x.seen(899), 1);
        NeverInLine all = new NeverInLine();
        for (int t = 0; t < 10; t++) {
            all.tower(p(10 + t, 5), 1000 * t);
        }
        due("16: all ten", all.seen(p(0, 5)), 1023);
        due("16: only the highest", all.seen(p(29, 5)), 512);
        due("16: at one: the next one below, and those above", all.seen(p(14, 5)), 992 + 8);
        TWINS.asks("16: seen", States::rich, y -> y.seen(p(0, 5)));
    }

    private static void seenHidden() {
        int[][] ways = {{1, 0}, {0, 1}, {-1, 0}, {0, -1}, {1, 1}, {-1, 1}, {1, -1}, {-1, -1}, {2, 1}, {-3, 1}, {1, -4}};
        for (int[] way : ways) {
            int from = p(15, 15);
            NeverInLine x = two(p(15 + way[0], 15 + way[1]), p(15 + 2 * way[0], 15 + 2 * way[1]));
            String told = " by " + way[0] + ", " + way[1];
            due("16: alike: the further one is hidden" + told, x.seen(from), 1);
            x.mend(1, 0, 1);
            due("16: the nearer one of less height" + told, x.seen(from), 3);
            x.mend(0, 0, 9);
            due("16: the nearer one higher" + told, x.seen(from), 1);
            x.mend(1, 0, 9);
            due("16: both the highest" + told, x.seen(from), 1);
            NeverInLine against = two(p(15 + way[0], 15 + way[1]), p(15 - 2 * way[0], 15 - 2 * way[1]));
            due("16: in the other direction" + told, against.seen(from), 3);
            NeverInLine first = two(p(15 + 2 * way[0], 15 + 2 * way[1]), p(15 + way[0], 15 + way[1]));
            due("16: the nearer one came later" + told, first.seen(from), 2);
        }
        due("16: nearly the same direction", two(p(1, 1), p(29, 28)).seen(0), 3);
        NeverInLine third = Twins.made(States::three);
        third.mend(0, 0, 5);
        third.mend(2, 0, 4);
        due("16: hidden by the first over one between", third.seen(p(0, 5)), 1);
        due("16: hidden by no one between: it is higher", third.seen(p(29, 5)), 5);
        third.mend(1, 0, 4);
        due("16: hidden by one that is hidden", third.seen(p(0, 5)), 1);
    }

    private static void seenStopped() {
        int[][] rows = {
            // A forest; who is seen from (4, 5), with towers of heights 0, 9 at (10, 5), (20, 5).
            {p(7, 4), p(7, 6), 0}, {p(4, 4), p(4, 6), 3}, {p(10, 4), p(10, 6), 1}, {p(10, 5), p(10, 6), 1}, {p(15, 4), p(15, 6), 1}, {p(20, 5), p(20, 6), 3},
            {p(21, 4), p(21, 6), 3}, {p(4, 5), p(5, 5), 0}, {p(0, 5), p(4, 5), 3}, {p(10, 5), p(20, 5), 1}, {p(20, 5), p(29, 5), 3}, {p(9, 5), p(9, 6), 0}, {p(7, 6), p(7, 9), 3},
        };
        for (int[] row : rows) {
            NeverInLine x = two(p(10, 5), p(20, 5));
            x.mend(1, 0, 9);
            x.forest(row[0], row[1]);
            due("16: a forest " + row[0] + " to " + row[1], x.seen(p(4, 5)), row[2]);
        }
        NeverInLine at = two(p(10, 5), p(20, 5));
        at.forest(p(10, 5), p(10, 9));
        due("16: from a forest's end at a tower: a way's end", at.seen(p(10, 5)), 2);
        NeverInLine each = two(p(10, 5), p(5, 10));
        for (int f = 0; f < 7; f++) {
            each.forest(p(f, 29), p(f + 1, 29));
        }
        each.forest(p(7, 4), p(7, 6));
        due("16: the eighth forest stops one of two", each.seen(p(5, 5)), 2);
    }
}

import java.util.function.Consumer;

/** Promises 17 to 24: free points, years, who has to go, towers moved, roads bent and new, the game, at their edges. */
final class WhereEdgeTest extends Edges {
    private static final int[] NO_POINTS = {-1, 900, MIN, MAX}, NO_CHOICES = {-1, 2, 10, MIN, MAX}, NO_HEIGHTS = {-1, 10, MIN, MAX};

    private WhereEdgeTest() { }

    public static void main(String[] args) {
        freeRefused();
        freeAllAndNone();
        freePlaces();
        freeNumber();
        yearsRefused();
        yearsFull();
        yearsPlaces();
        yearsHeights();
        goRefused();
        fewestEdges();
        cheapestEdges();
        movedRefused();
        movedEdges();
        bentRefused();
        bentEdges();
        bentFirstAndLast();
        newlyRefused();
        newlyEdges();
        newlyNot();
        gameRefused();
        gameFull();
        gamePlaces();
        gameNumber();
        gamePairs();
        gamePairsByLaw();
        CHECK.end();
    }

    private static NeverInLine lawless() {
        NeverInLine x = new NeverInLine();
        States.law(x, "0");
        return x;
    }

    /** So many towers in the last row, from its end on. */
    private static void lastRow(NeverInLine x, int towers) {
        for (int t = 0; t < towers; t++) {
            x.tower(899 - t, 0);
        }
    }

    // ---- promise 17

    private static void freeRefused() {
        for (int y : new int[] {-1, 30, 900, MIN, MAX}) {
            bad("17: BAD is ahead of STATE, y " + y, x -> x.free(y, 0, 0));
        }
        for (int height : NO_HEIGHTS) {
            bad("17: BAD is ahead of STATE, height " + height, x -> x.free(0, height, 0));
        }
        for (int what : NO_CHOICES) {
            bad("17: BAD is ahead of STATE, what " + what, x -> x.free(0, 0, what));
        }
        refused("17: ten towers", States::full, x -> x.free(0, 0, 0), STATE);
        refused("17: ten towers, the first x", States::full, x -> x.free(29, 9, 1), STATE);
        for (int what = 0; what < 2; what++) {
            int it = what;
            TWINS.asks("17: free", States::rich, x -> x.free(5, 9, it));
            TWINS.asks("17: free on nothing", States::empty, x -> x.free(29, 0, it));
        }
        NeverInLine nine = new NeverInLine();
        lastRow(nine, 9);
        due("17: nine towers", nine.free(0, 0, 0), 30);
        nine.tower(0, 0);
        due("17: the tenth came", nine.free(1, 0, 0), STATE);
    }

    private static void freeAllAndNone() {
        NeverInLine x = new NeverInLine();
        for (int y : new int[] {0, 29}) {
            for (int height : new int[] {0, 9}) {
                due("17: all of a row", x.free(y, height, 0), 30);
                due("17: its first", x.free(y, height, 1), 0);
            }
        }
        // Roads with 24 corners and five towers leave one point of row 0, then none.
        NeverInLine y = lawless();
        for (int r = 0; r < 4; r++) {
            y.road(6 * r, 6 * r + 1);
            for (int i = 2; i < 6; i++) {
                y.corner(r, 6 * r + i);
            }
        }
        for (int t = 24; t < 29; t++) {
            y.tower(t, 0);
        }
        due("17: one", y.free(0, 0, 0), 1);
        due("17: the last x", y.free(0, 0, 1), 29);
        due("17: the next row", y.free(1, 0, 0), 30);
        y.tower(29, 0);
        due("17: none", y.free(0, 0, 0), 0);
        due("17: none: NOT", y.free(0, 0, 1), NOT);
        due("17: the last row", y.free(29, 0, 0), 30);
    }

    private static void freePlaces() {
        NeverInLine x = lawless();
        x.tower(p(0, 3), 0);
        due("17: a tower there", x.free(3, 0, 0), 29);
        due("17: the next one", x.free(3, 0, 1), 1);
        x.road(p(0, 4), p(29, 4));
        due("17: two corners there; a road's other points do not matter", x.free(4, 0, 0), 28);
        due("17: the first behind the corner", x.free(4, 0, 1), 1);
        x.corner(0, p(7, 6));
        due("17: the third corner", x.free(6, 0, 0), 29);
        x.forest(p(0, 8), p(29, 8));
        due("17: forests do not matter", x.free(8, 0, 0), 30);
        // From (0, 0) a tower behind (5, 0) is seen in line with it if it is at most 3 higher.
        NeverInLine y = new NeverInLine();
        y.tower(p(5, 0), 0);
        y.road(p(0, 0), p(0, 1));
        due("17: height 3: only (0, 1) .. would be; in row 0 none", y.free(0, 3, 0), 0);
        due("17: height 4: those behind", y.free(0, 4, 0), 24);
        due("17: height 4: the first behind", y.free(0, 4, 1), 6);
        due("17: heights of others do not change by asking", y.of(0, 1), 0);
        States.law(y, "o");
        due("17: it is not old", y.free(0, 3, 0), 28);
        y.mend(0, 2, 1);
        due("17: one of both is old", y.free(0, 3, 0), 0);
    }

    private static void freeNumber() {
        for (int towers = 1; towers < 10; towers++) {
            NeverInLine x = new NeverInLine();
            x.tower(p(10, 0), 0);
            lastRow(x, towers - 1);
            x.road(p(0, 0), p(1, 0));
            States.law(x, "n=0&m=" + towers);
            due("17: its number is the next one, " + towers, x.free(0, 0, 0), 0);
            States.law(x, "n=0&m=" + (towers - 1));
            due("17: not one that is there, " + towers, x.free(0, 0, 0), 27);
            States.law(x, "n=0&m=" + (towers + 1));
            due("17: not the one behind it, " + towers, x.free(0, 0, 0), 27);
        }
    }

    // ---- promise 18

    private static void yearsRefused() {
        for (int height : NO_HEIGHTS) {
            bad("18: height " + height, x -> x.years(height, 0));
        }
        for (int what : NO_CHOICES) {
            bad("18: what " + what, x -> x.years(0, what));
        }
        refused("18: ten stand: nowhere", States::full, x -> x.years(9, 1), NOT);
        refused("18: ten stand: none", States::full, x -> x.years(0, 0), 0);
        for (int what = 0; what < 2; what++) {
            int it = what;
            TWINS.asks("18: in thought", States::rich, x -> x.years(9, it));
            TWINS.asks("18: in thought on nothing", States::empty, x -> x.years(0, it));
        }
    }

    private static void yearsFull() {
        for (int towers = 0; towers <= 10; towers++) {
            NeverInLine x = new NeverInLine();
            lastRow(x, towers);
            due("18: fewer than ten: so many come to " + towers, x.years(0, 0), 10 - towers);
            due("18: the last one stands, with " + towers, x.years(0, 1), towers == 10 ? NOT : 9 - towers);
            due("18: height 9", x.years(9, 1), towers == 10 ? NOT : 9 - towers);
            due("18: none came but in thought", x.count(0), towers);
        }
    }

    private static void yearsPlaces() {
        NeverInLine x = lawless();
        x.road(0, 1);
        x.corner(0, 3);
        x.tower(2, 0);
        due("18: past corners and towers", x.years(0, 1), 12);
        due("18: nine", x.years(0, 0), 9);
        // From the road in row 0 two are in line only if both stand in that row.
        NeverInLine y = new NeverInLine();
        y.road(p(0, 0), p(29, 0));
        States.law(y, "n=0&m=1");
        due("18: 0 and 1 alone must not be in line", y.years(0, 0), 10);
        due("18: 0 at (1, 0), 1 at (0, 1), then the first ones", y.years(0, 1), 9);
        States.law(y, "m=9");
        due("18: the tenth may come to any row but row 0", y.years(0, 0), 10);
        due("18: after (1, 0) .. (9, 0) it comes to (0, 1)", y.years(0, 1), 30);
        // Its number counts the ones that came in thought.
        NeverInLine z = new NeverInLine();
        z.road(p(0, 0), p(0, 29));
        z.corner(0, p(29, 29));
        z.corner(0, p(29, 0));
        z.corner(0, p(0, 0));
        z.tower(p(15, 15), 0);
        for (int m = 1; m < 10; m++) {
            States.law(z, "n=0&m=" + m);
            due("18: all come till number " + m, z.years(0, 0), m - 1);
            due("18: the last one of them", z.years(0, 1), m == 1 ? NOT : m - 1);
        }
    }

    private static void yearsHeights() {
        NeverInLine x = new NeverInLine();
        x.tower(p(5, 0), 0);
        x.road(p(0, 0), p(0, 1));
        States.law(x, "n=0&b=7");
        for (int again = 0; again < 2; again++) {
            due("18: of height 7 none comes behind (5, 0) in its row", x.years(7, 1), p(5, 1));
            due("18: of height 6 they come", x.years(6, 1), p(10, 0));
        }
    }

    // ---- promises 19, 20

    private static void goRefused() {
        for (int what : NO_CHOICES) {
            bad("20: what " + what, x -> x.cheapest(what));
        }
        TWINS.asks("19: fewest", States::rich, NeverInLine::fewest);
        TWINS.asks("20: cheapest", States::rich, x -> x.cheapest(0));
        TWINS.asks("20: its price", States::rich, x -> x.cheapest(1));
        NeverInLine x = new NeverInLine();
        due("19: no towers", x.fewest(), 0);
        due("20: no towers", x.cheapest(0) + x.cheapest(1), 0);
    }

    /** So many towers in row 5, each pair in line from (0, 5), each at this price. */
    private static NeverInLine inRow(int towers, int price) {
        NeverInLine x = new NeverInLine();
        for (int t = 0; t < towers; t++) {
            x.tower(p(10 + t, 5), 10 * price);
        }
        x.road(p(0, 5), p(0, 6));
        return x;
    }

    private static void fewestEdges() {
        due("19: one alone", inRow(1, 0).fewest(), 0);
        due("19: one of two, the least", inRow(2, 0).fewest(), 1);
        for (int towers = 3; towers <= 10; towers++) {
            due("19: all but the last one of " + towers, inRow(towers, 9).fewest(), (1 << towers - 1) - 1);
        }
        NeverInLine x = inRow(10, 0);
        States.law(x, "m=9");
        due("19: the last of ten", x.fewest(), 512);
        States.law(x, "n=0");
        due("19: the first of ten", x.fewest(), 1);
        States.law(x, "0");
        due("19: all is lawful", x.fewest(), 0);
        States.law(x, "n=0&m=9|n=1&m=8");
        due("19: of like ones the least", x.fewest(), 3);
        States.law(x, "n=0&m<3|n=3&m>7");
        due("19: the fewest, not the least", x.fewest(), 9);
        States.law(x, "m=9&n<2");
        due("19: one that is greater ahead of two that are less", x.fewest(), 512);
        States.law(x, "n=8");
        due("19: numbers stay as others go", x.fewest(), 256);
        States.law(x, "n=0&m=1");
        due("19: not for what would be 0 and 1, were others gone", x.fewest(), 1);
    }

    private static void cheapestEdges() {
        NeverInLine dear = inRow(10, 99);
        due("20: nine at 99", dear.cheapest(1), 891);
        due("20: all but the last one", dear.cheapest(0), 511);
        NeverInLine gifts = inRow(10, 0);
        due("20: nine at 0", gifts.cheapest(1), 0);
        due("20: the least bits at 0", gifts.cheapest(0), 511);
        due("20: one alone", inRow(1, 99).cheapest(0), 0);
        NeverInLine x = inRow(3, 1);
        States.law(x, "n=0&m=2|n=1");
        x.mend(2, 1, 2);
        due("20: two at 1 as cheap as one at 2: the least bits", x.cheapest(0), 3);
        due("20: their price", x.cheapest(1), 2);
        due("19: but the fewest", x.fewest(), 4);
        x.mend(2, 1, 1);
        due("20: one cheaper than two", x.cheapest(0), 4);
        x.mend(2, 1, 3);
        due("20: two cheaper than one", x.cheapest(0) * 10 + x.cheapest(1), 32);
        NeverInLine free = inRow(3, 5);
        States.law(free, "n=1");
        free.mend(2, 1, 0);
        due("20: one at 0", free.cheapest(0) * 10 + free.cheapest(1), 40);
        free.mend(1, 1, 0);
        due("20: of two at 0 the least bits, and no more of them", free.cheapest(0), 2);
        States.law(free, "0");
        due("20: lawful", free.cheapest(0) + free.cheapest(1), 0);
    }

    // ---- promise 21

    private static void movedRefused() {
        for (int tower : new int[] {-1, 10, MIN, MAX}) {
            bad("21: tower " + tower, x -> x.moved(tower, 909));
        }
        refused("21: no such tower yet", States::rich, x -> x.moved(4, 909), BAD);
        for (int xy : new int[] {-1, -100, 19, 99, 919, 1819, 1900, 1909, 1999, 10000, MIN, MAX}) {
            bad("21: xy " + xy, x -> x.moved(0, xy));
        }
        refused("21: BAD is ahead of NOT", x -> x.tower(0, 0), x -> x.moved(0, 19), BAD);
        refused("21: it would leave the plain", x -> x.tower(0, 0), x -> x.moved(0, 809), NOT);
        refused("21: it would stand on another one", States::rich, x -> x.moved(0, 1409), NOT);
        for (int xy : new int[] {909, 0, 18, 1018, 910}) {
            TWINS.asks("21: in thought, xy " + xy, States::rich, x -> x.moved(3, xy));
        }
    }

    private static void movedEdges() {
        int[][] rows = {
            // A point, xy, and whether it is on the plain then.
            {0, 909, 1}, {0, 809, 0}, {0, 908, 0}, {0, 808, 0}, {0, 1818, 1}, {0, 9, 0}, {0, 900, 0}, {899, 909, 1}, {899, 1009, 0}, {899, 910, 0}, {899, 0, 1}, {899, 1010, 0},
            {p(9, 9), 0, 1}, {p(8, 9), 0, 0}, {p(9, 8), 0, 0}, {p(20, 20), 1818, 1}, {p(21, 20), 1818, 0}, {p(20, 21), 1818, 0}, {p(9, 20), 18, 1}, {p(20, 9), 1800, 1},
            {p(29, 5), 1009, 0}, {p(0, 6), 809, 0}, {p(5, 0), 908, 0}, {p(5, 29), 910, 0}, {p(29, 0), 1010, 0}, {p(0, 29), 808, 0}, {p(1, 1), 808, 1}, {p(28, 28), 1010, 1},
        };
        for (int[] row : rows) {
            NeverInLine x = new NeverInLine();
            x.tower(row[0], 0);
            due("21: from " + row[0] + " by " + row[1], x.moved(0, row[1]), row[2] == 1 ? 0 : NOT);
            due("21: it stands as it stood", x.of(0, 0), row[0]);
        }
        NeverInLine x = Twins.made(States::three);
        x.road(p(0, 5), p(0, 6));
        due("21: by nothing", x.moved(1, 909), 3);
        due("21: beside the row", x.moved(1, 908), 2);
        due("21: far beside the row", x.moved(1, 907), 1);
        due("21: beside another one", x.moved(1, 1309), 3);
        due("21: onto another one", x.moved(1, 1409), NOT);
        due("21: onto the first", x.moved(1, 409), NOT);
        due("21: over another one", x.moved(1, 1509), 3);
        due("21: to a corner of the road", x.moved(0, 409), 1);
        x.mend(2, 0, 7);
        due("21: a higher one at the end", x.moved(2, 909), 1);
        due("21: a higher one behind the first", x.moved(2, 9), 2);
        due("21: a higher one just ahead of the second", x.moved(2, 309), 2);
        due("21: a higher one just behind the second", x.moved(2, 509), 1);
    }

    // ---- promise 22

    private static void bentRefused() {
        for (int ri : new int[] {-1, -10, 5, 6, 9, 40, 41, 100, MIN, MAX}) {
            bad("22: BAD is ahead of STATE, ri " + ri, x -> x.bent(ri, 0));
        }
        for (int what : NO_CHOICES) {
            bad("22: BAD is ahead of STATE, what " + what, x -> x.bent(0, what));
        }
        for (int ri : new int[] {2, 3, 11, 20}) {
            refused("22: no such stretch or road yet, ri " + ri, States::rich, x -> x.bent(ri, 0), BAD);
        }
        for (int i = 0; i < 5; i++) {
            int it = i;
            refused("22: six corners", States::full, x -> x.bent(it, 0), STATE);
            refused("22: six corners, guilts", States::full, x -> x.bent(it, 1), STATE);
        }
        for (int what = 0; what < 2; what++) {
            int it = what;
            TWINS.asks("22: in thought", States::rich, x -> x.bent(1, it));
        }
    }

    private static void bentEdges() {
        NeverInLine x = lawless();
        x.road(p(0, 0), p(1, 0));
        due("22: no end of it", x.bent(0, 0), 2);
        x.tower(2, 0);
        x.tower(3, 0);
        due("22: no tower", x.bent(0, 0), 4);
        x.corner(0, 4);
        due("22: another stretch's corner", x.bent(0, 0), 4);
        due("22: its own ends are 1 and 4", x.bent(1, 0), 0);
        x.corner(0, 899);
        due("22: five corners", x.corner(0, 898), 5);
        due("22: five corners still have room", x.bent(3, 0), 0);
        due("22: the last stretch of five corners", x.bent(3, 1), 0);
        due("22: none behind it", x.bent(4, 0), BAD);
        x.corner(0, 5);
        due("22: six have none", x.bent(3, 0), STATE);
        NeverInLine y = Twins.made(States::three);
        y.road(p(0, 0), p(0, 9));
        y.road(p(29, 0), p(29, 9));
        due("22: guilts of all roads", y.guilts(-1), 6);
        due("22: as few as by a road that is laid so", y.bent(0, 1), least(y));
        due("22: the other road's guilts stay", y.bent(0, 1) >= 3 ? 1 : 0, 1);
        y.forest(p(1, 5), p(2, 5));
        y.forest(p(28, 5), p(27, 5));
        // The way from (24, 0) to (29, 9) passes row 5 ahead of the forest, that from (25, 0) within it.
        due("22: nothing in line: the first point", y.bent(10, 0), 25);
        due("22: no guilts", y.bent(10, 1), 0);
        NeverInLine wide = new NeverInLine();
        wide.tower(p(10, 29), 0);
        wide.tower(p(11, 29), 0);
        wide.road(p(0, 28), p(0, 29));
        wide.corner(0, p(0, 28));
        due("22: a corner in line stays: the first of like ones", wide.bent(0, 0), 0);
        due("22: its two guilts stay", wide.bent(0, 1), 2);
    }

    /** Towers and forests where the last point is the best one, and where a point below the last row would be better. */
    private static void bentFirstAndLast() {
        int[] towers = {249, 746, 717, 5, 715, 683, 773, 523};
        bent(towers, new int[0], 868, 807, 899, 1);
        int[] four = {324, 564, 380, 246};
        int[] forests = {71, 219, 570, 519, 463, 590, 211, 155, 894, 785, 585, 760, 563, 674};
        bent(four, forests, 896, 827, 185, 1);
    }

    /** What is due by hand, and by each road that is laid so. */
    private static void bent(int[] towers, int[] forests, int a, int b, int point, int guilts) {
        Consumer<NeverInLine> making = x -> {
            for (int t : towers) {
                x.tower(t, 0);
            }
            for (int f = 0; f < forests.length; f += 2) {
                x.forest(forests[f], forests[f + 1]);
            }
        };
        int first = NOT;
        int least = MAX;
        for (int c = 0; c < 900; c++) {
            NeverInLine x = Twins.made(making);
            x.road(a, c);
            if (c != a && c != b && x.tower(c, 0) != BAD) {
                x = Twins.made(making);
                x.road(a, c);
                x.corner(0, b);
                first = x.guilts(0) < least ? c : first;
                least = Math.min(least, x.guilts(0));
            }
        }
        NeverInLine x = Twins.made(making);
        x.road(a, b);
        due("22: the best point", x.bent(0, 0), point);
        due("22: its guilts", x.bent(0, 1), guilts);
        due("22: the best point by roads", first, point);
        due("22: its guilts by roads", least, guilts);
    }

    /** The least guilts of all by one corner more in stretch 0 of road 0, by roads that are laid so. */
    private static int least(NeverInLine y) {
        int others = y.guilts(1);
        int least = MAX;
        for (int point = 1; point < 900; point++) {
            NeverInLine x = Twins.made(States::three);
            boolean tower = point == p(5, 5) || point == p(10, 5) || point == p(15, 5);
            if (!tower && point != p(0, 9)) {
                x.road(p(0, 0), point);
                x.corner(0, p(0, 9));
                least = Math.min(least, others + x.guilts(0));
            }
        }
        return least;
    }

    // ---- promise 23

    private static void newlyRefused() {
        for (int point : NO_POINTS) {
            bad("23: from " + point, x -> x.newly(point, 7));
            bad("23: to " + point, x -> x.newly(7, point));
        }
        refused("23: BAD is ahead of NOT", States::three, x -> x.newly(p(5, 5), 900), BAD);
        refused("23: BAD is ahead of NOT, too", States::three, x -> x.newly(-1, p(5, 5)), BAD);
        refused("23: from a tower", States::rich, x -> x.newly(p(15, 15), 0), NOT);
        refused("23: to a tower", States::rich, x -> x.newly(0, p(15, 15)), NOT);
        TWINS.asks("23: newly", States::rich, x -> x.newly(0, 899));
    }

    private static void newlyEdges() {
        NeverInLine x = new NeverInLine();
        int[][] rows = {
            {0, 0, 0}, {899, 899, 0}, {0, 1, 1}, {0, 30, 1}, {1, 0, 1}, {30, 0, 1}, {899, 898, 1}, {899, 869, 1}, {898, 899, 1}, {869, 899, 1}, {0, 31, 2}, {31, 0, 2},
            {0, 29, 29}, {29, 0, 29}, {29, 30, 30}, {30, 29, 30}, {59, 60, 30}, {0, 870, 29}, {870, 0, 29}, {0, 899, 58}, {899, 0, 58}, {29, 870, 58}, {870, 29, 58}, {0, 59, 30},
        };
        for (int[] row : rows) {
            due("23: from " + row[0] + " to " + row[1], x.newly(row[0], row[1]), row[2]);
        }
        x.tower(1, 0);
        due("23: round a tower", x.newly(0, 2), 4);
        x.tower(p(1, 1), 0);
        // The two are in line from the rest of column 1.
        due("23: no way through column 1", x.newly(0, 2), NOT);
        due("23: on this side of it", x.newly(0, p(0, 29)), 29);
        due("23: on that side of it", x.newly(2, p(2, 29)), 29);
        x.forest(p(0, 5), p(2, 5));
        due("23: behind a forest none are in line", x.newly(0, 2), 14);
        due("23: at the forest: it is the way's end", x.newly(p(1, 5), 2), NOT);
        due("23: behind it", x.newly(p(1, 6), p(1, 7)), 1);
        x.road(0, 2);
        due("23: roads do not matter", x.newly(0, 2), 14);
    }

    private static void newlyNot() {
        NeverInLine x = Twins.made(States::three);
        int inLine = p(0, 5);
        due("23: an end in line: from", x.newly(inLine, 0), NOT);
        due("23: an end in line: to", x.newly(0, inLine), NOT);
        due("23: an end in line, they are one", x.newly(inLine, inLine), NOT);
        due("23: an end at a tower, they are one", x.newly(p(5, 5), p(5, 5)), NOT);
        due("23: an end that may be, they are one", x.newly(0, 0), 0);
        String[] laws = {"k=4", "k<4", "k>4", "k=0"};
        int[] want = {NOT, 6, 6, 6};
        for (int i = 0; i < laws.length; i++) {
            States.law(x, laws[i]);
            due("23: with k 4, by " + laws[i], x.newly(p(0, 2), p(0, 8)), want[i]);
        }
        NeverInLine shut = new NeverInLine();
        shut.tower(1, 0);
        shut.tower(30, 9000);
        due("23: a corner shut off", shut.newly(0, 899), NOT);
        due("23: from within", shut.newly(0, 0), 0);
        due("23: to it", shut.newly(899, 0), NOT);
    }

    // ---- promise 24

    private static void gameRefused() {
        for (int point : NO_POINTS) {
            bad("24: point " + point, x -> x.game(point, 20, 0));
        }
        for (int sh : new int[] {-1, 0, 9, 10, 19, 40, 49, 200, MIN, MAX}) {
            bad("24: sh " + sh, x -> x.game(0, sh, 0));
        }
        for (int what : NO_CHOICES) {
            bad("24: what " + what, x -> x.game(0, 20, what));
        }
        for (int beyond : new int[] {29, 59, 870, 899, p(28, 29), p(29, 28)}) {
            bad("24: beyond the plain, side 2 at " + beyond, x -> x.game(beyond, 20, 0));
        }
        for (int beyond : new int[] {28, 29, 840, 870, p(28, 27), p(27, 28), 899}) {
            bad("24: beyond the plain, side 3 at " + beyond, x -> x.game(beyond, 39, 1));
        }
        refused("24: NOT", States::full, x -> x.game(0, 20, 1), NOT);
        for (int what = 0; what < 2; what++) {
            int it = what;
            TWINS.asks("24: in thought", States::rich, x -> x.game(p(20, 20), 29, it));
            TWINS.asks("24: in thought on nothing", States::empty, x -> x.game(p(27, 27), 30, it));
        }
        NeverInLine x = new NeverInLine();
        for (int point : new int[] {0, 28, p(28, 28), p(0, 28)}) {
            for (int sh : new int[] {20, 29}) {
                due("24: four points at " + point, x.game(point, sh, 0), 0);
                due("24: none at " + point, x.game(point, sh, 1), NOT);
            }
        }
        for (int point : new int[] {0, 27, p(27, 27), p(0, 27)}) {
            for (int sh : new int[] {30, 39}) {
                due("24: nine points at " + point, x.game(point, sh, 0), 1);
                due("24: the first at " + point, x.game(point, sh, 1), point);
            }
        }
    }

    private static void gameFull() {
        for (int towers = 0; towers <= 10; towers++) {
            NeverInLine x = lawless();
            lastRow(x, towers);
            int puts = Math.min(9, 10 - towers);
            due("24: so many may be put in nine points: " + puts, x.game(0, 30, 0), puts % 2);
            due("24: the first point by which", x.game(0, 30, 1), puts % 2 == 1 ? 0 : NOT);
            puts = Math.min(4, 10 - towers);
            due("24: so many may be put in four points: " + puts, x.game(0, 20, 0), puts % 2);
        }
    }

    private static void gamePlaces() {
        NeverInLine x = lawless();
        x.tower(0, 0);
        due("24: a tower is there: three points", x.game(0, 20, 1), 1);
        due("24: eight points", x.game(0, 30, 0), 0);
        x.tower(1, 0);
        due("24: two points", x.game(0, 20, 0), 0);
        due("24: seven points", x.game(0, 30, 1), 2);
        x.tower(30, 0);
        due("24: one point", x.game(0, 20, 1), 31);
        x.tower(31, 0);
        due("24: no point", x.game(0, 20, 0), 0);
        due("24: no point: none", x.game(0, 20, 1), NOT);
        NeverInLine y = lawless();
        y.road(0, 1);
        y.corner(0, 30);
        due("24: corners are there: one point", y.game(0, 20, 1), 31);
        due("24: the last of four points", y.game(0, 20, 0), 1);
        // From (0, 0) any two of one row are in line; of the square at (5, 0) the others are not.
        NeverInLine road = new NeverInLine();
        road.road(p(0, 0), p(1, 0));
        States.law(road, "a=b");
        due("24: free then: the two of row 0 are in line from the road", road.game(p(5, 0), 20, 0), gameOf(road, p(5, 0)));
        NeverInLine height = new NeverInLine();
        height.tower(p(10, 0), 0);
        height.road(p(0, 0), p(1, 0));
        States.law(height, "a=0&b=7");
        due("24: of height 7 none may be behind (10, 0)", height.game(p(20, 0), 27, 0), 0);
        due("24: of height 6 each may", height.game(p(20, 0), 26, 0), 0);
        States.law(height, "n=0&b=7");
        height.tower(p(20, 1), 0);
        due("24: of height 7: (20, 0), (21, 0) not, (20, 1) is there", height.game(p(20, 0), 27, 1), p(21, 1));
        due("24: of height 6: three points", height.game(p(20, 0), 26, 1), p(20, 0));
        States.law(height, "o");
        due("24: they are not old", height.game(p(20, 0), 27, 1), p(20, 0));
    }

    /** Whether who begins wins on a square of side 2 where only pairs that are put matter, told by guilts of pairs. */
    private static int gameOf(NeverInLine like, int point) {
        int[] cells = {point, point + 1, point + 30, point + 31};
        int[] clash = new int[4];
        for (int c = 0; c < 4; c++) {
            for (int d = 0; d < 4; d++) {
                NeverInLine x = new NeverInLine();
                x.tower(cells[c], 0);
                x.tower(cells[d], 0);
                x.road(like.of(0, 20), like.of(0, 21));
                clash[c] |= c == d || x.guilts(-1) > 0 ? 1 << d : 0;
            }
        }
        return wins(clash, 0) ? 1 : 0;
    }

    private static boolean wins(int[] clash, int taken) {
        for (int c = 0; c < 4; c++) {
            if ((clash[c] & taken) == 0 && !wins(clash, taken | 1 << c)) {
                return true;
            }
        }
        return false;
    }

    private static void gamePairs() {
        // Of the square at (10, 10) the pairs that a road sees in line, and the first point by which who begins wins.
        int[][] rows = {
            {p(0, 10), p(1, 10), p(10, 10)}, {p(0, 11), p(1, 11), p(10, 10)}, {p(10, 0), p(10, 1), p(10, 10)}, {p(11, 0), p(11, 1), p(10, 10)},
            {p(0, 0), p(0, 1), p(10, 10)}, {p(0, 21), p(0, 22), p(10, 10)}, {p(0, 10), p(0, 11), NOT}, {p(10, 0), p(11, 0), NOT},
            {p(29, 10), p(29, 11), NOT}, {p(0, 12), p(0, 13), NOT}, {p(0, 0), p(0, 29), NOT},
        };
        for (int[] row : rows) {
            NeverInLine x = new NeverInLine();
            x.road(row[0], row[1]);
            due("24: by a road " + row[0] + " to " + row[1], x.game(p(10, 10), 20, 1), row[2]);
        }
        NeverInLine rowwise = new NeverInLine();
        rowwise.road(p(0, 9), p(0, 13));
        due("24: one to each of three rows", rowwise.game(p(10, 10), 30, 1), p(10, 10));
        NeverInLine two = new NeverInLine();
        two.road(p(0, 10), p(0, 11));
        due("24: one to each of two rows, three to the third", two.game(p(10, 10), 30, 0), 1);
    }

    private static void gamePairsByLaw() {
        NeverInLine x = new NeverInLine();
        x.road(p(0, 11), p(1, 11));
        due("24: one pair in line: three may be put", x.game(p(10, 10), 20, 1), p(10, 10));
        Object[][] rows = {
            {"a=5&b=5", 25, 1}, {"a=5&b=5", 24, 0}, {"a=5&b=5", 25, 1}, {"a=4|b=4", 25, 0}, {"o=0", 20, 1}, {"o", 20, 0}, {"k=0", 20, 1}, {"k=1", 20, 0},
            {"n=10&m=10", 20, 1}, {"m=11", 20, 0}, {"n<10", 20, 0}, {"0", 29, 0}, {"1", 29, 1},
        };
        for (Object[] row : rows) {
            States.law(x, (String) row[0]);
            due("24: two that are put, by " + row[0] + " with " + row[1], x.game(p(10, 10), (Integer) row[1], 0), (Integer) row[2]);
        }
    }

    private static void gameNumber() {
        NeverInLine x = new NeverInLine();
        x.tower(p(10, 0), 0);
        x.road(p(0, 0), p(1, 0));
        String[] laws = {"n=0&m=10", "n=0&m=1", "n=10|m=1", "m=9", "m>9&n=0"};
        // Of (20, 0), (21, 0), (20, 1), (21, 1) the first two are in line with (10, 0) and with each other from (0, 0).
        int[] first = {NOT, NOT, p(20, 0), NOT, NOT};
        for (int i = 0; i < laws.length; i++) {
            States.law(x, laws[i]);
            due("24: their number is 10, by " + laws[i], x.game(p(20, 0), 20, 1), first[i]);
        }
        States.law(x, "n=0&m=10");
        due("24: with (10, 0) itself", x.game(p(10, 0), 20, 1), NOT);
        due("24: three points of it, one in line", x.game(p(9, 0), 20, 1), NOT);
        States.law(x, "n=0&m=11");
        due("24: nobody's number is 11", x.game(p(10, 0), 20, 1), p(11, 0));
    }
}

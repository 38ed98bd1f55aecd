import java.util.function.Consumer;

/** Promises 25 to 28: sights, where towers can be, changes undone and done again, at their edges. */
final class SightEdgeTest extends Edges {
    private static final int MIXED = 47;

    private SightEdgeTest() { }

    public static void main(String[] args) {
        sightRefused();
        sightFull();
        fitsRefused();
        fitsPlaces();
        fitsHidden();
        fitsAll();
        changesNone();
        changesLatestFirst();
        changesDoneAgain();
        changesKept();
        changesMixed();
        changesTogether();
        CHECK.end();
    }

    // ---- promise 25

    private static void sightRefused() {
        for (int point : new int[] {-1, 900, MIN, MAX}) {
            bad("25: point " + point, x -> x.sight(point, 0));
        }
        for (int bits : new int[] {-1, 1024, 1025, 2047, MIN, MAX}) {
            bad("25: bits " + bits, x -> x.sight(0, bits));
        }
        refused("25: full", States::full, x -> x.sight(0, 0), FULL);
        refused("25: full, the greatest", States::full, x -> x.sight(899, 1023), FULL);
    }

    private static void sightFull() {
        NeverInLine x = new NeverInLine();
        for (int i = 0; i < 10; i++) {
            due("25: its number", x.sight(i % 2 * 899, i % 3 == 0 ? 1023 : 0), i);
        }
        due("25: the eleventh", x.sight(5, 5), FULL);
        due("25: ten", x.count(3), 10);
        NeverInLine y = new NeverInLine();
        y.tower(5, 0);
        for (int i = 0; i < 9; i++) {
            y.sight(0, 1);
        }
        due("26: nine alike: all points but the walker's", y.fits(0, 0), 899);
        y.sight(899, 1);
        due("26: the tenth counts", y.fits(0, 0), 898);
        y.sight(1, 0);
        due("26: the refused one does not", y.fits(0, 0), 898);
    }

    // ---- promise 26

    private static void fitsRefused() {
        for (int tower : new int[] {-1, 10, MIN, MAX}) {
            bad("26: tower " + tower, x -> x.fits(tower, 0));
        }
        refused("26: no tower yet", States::empty, x -> x.fits(0, 0), BAD);
        refused("26: no such tower yet", States::rich, x -> x.fits(4, 1), BAD);
        for (int what : new int[] {-1, 2, 10, MIN, MAX}) {
            bad("26: what " + what, x -> x.fits(0, what));
        }
        refused("26: NOT", x -> {
            x.tower(5, 0);
            x.sight(0, 2);
        }, x -> x.fits(0, 1), NOT);
        for (int what = 0; what < 2; what++) {
            int it = what;
            TWINS.asks("26: moved in thought", States::rich, x -> x.fits(0, it));
        }
    }

    private static NeverInLine alone(int... sights) {
        NeverInLine x = new NeverInLine();
        x.tower(p(5, 5), 0);
        for (int i = 0; i < sights.length; i += 2) {
            x.sight(sights[i], sights[i + 1]);
        }
        return x;
    }

    private static void fits(String told, NeverInLine x, int tower, int many, int first) {
        due("26: " + told + ": how many", x.fits(tower, 0), many);
        due("26: " + told + ": the first", x.fits(tower, 1), first);
        due("26: " + told + ": it stands as it stood", x.of(0, 0), p(5, 5));
    }

    private static void fitsPlaces() {
        fits("no sights", alone(), 0, 900, 0);
        fits("seen from 0", alone(0, 1), 0, 899, 1);
        fits("seen from 1", alone(1, 1), 0, 899, 0);
        fits("not seen from 899: at it alone", alone(899, 0), 0, 1, 899);
        fits("not seen from 0: at it alone", alone(0, 0), 0, 1, 0);
        fits("not seen from two points", alone(0, 0, 899, 0), 0, 0, NOT);
        fits("seen and not seen from one point", alone(7, 1, 7, 0), 0, 0, NOT);
        fits("one that is not there was seen", alone(7, 3), 0, 0, NOT);
        fits("all were seen", alone(7, 1023), 0, 0, NOT);
        fits("not seen from where it stands", alone(p(5, 5), 0), 0, 1, p(5, 5));
        NeverInLine forest = alone(0, 0);
        forest.forest(p(28, 29), p(29, 28));
        fits("behind a forest, too, or at 0", forest, 0, 2, 0);
        NeverInLine shut = alone(899, 0, 898, 1);
        fits("at 899, seen from beside", shut, 0, 1, 899);
        NeverInLine two = alone();
        two.tower(p(7, 5), 0);
        fits("not at another one", two, 0, 899, 0);
        two.tower(0, 0);
        fits("not at the first point, where one is", two, 0, 898, 1);
        fits("the other one's", two, 2, 898, 0);
    }

    private static void fitsHidden() {
        NeverInLine x = alone();
        x.tower(p(7, 5), 2000);
        x.sight(p(0, 5), 2);
        // Tower 0 is at (0, 5), or behind (7, 5) in row 5.
        fits("hidden or at it", x, 0, 23, p(0, 5));
        x.mend(0, 0, 2);
        fits("alike, hidden", x, 0, 23, p(0, 5));
        x.mend(0, 0, 3);
        fits("higher, not hidden", x, 0, 1, p(0, 5));
        NeverInLine y = alone();
        y.tower(p(7, 5), 2000);
        y.sight(p(0, 5), 1);
        // Tower 0, lower, can not hide tower 1; tower 1 is to be at the walker's point or behind tower 0 and no higher.
        fits("it can't hide a higher one", y, 0, 0, NOT);
        fits("the higher one: at the walker's", y, 1, 1, p(0, 5));
        y.mend(0, 0, 2);
        fits("alike, it hides from ahead", y, 0, 6, p(1, 5));
        fits("alike, the other one hides behind it, or at the walker's", y, 1, 25, p(0, 5));
        NeverInLine self = alone(p(0, 5), 1);
        self.tower(p(7, 5), 0);
        fits("from its own place: it hides the other one already", self, 0, 6, p(1, 5));
    }

    private static void fitsAll() {
        NeverInLine x = new NeverInLine();
        for (int t = 0; t < 10; t++) {
            x.tower(p(10 + t, 5), 1000 * t);
        }
        x.sight(p(0, 5), 1023);
        due("26: all ten seen, tower 9 may be anywhere behind, or beside", x.fits(9, 0), 900 - 9 - 1 - 9);
        due("26: the first", x.fits(9, 1), 0);
        x.sight(p(29, 5), 512);
        // From (29, 5) tower 9 has to hide 8: it is in row 5, behind 8 as seen from (0, 5), and not at the walker's.
        due("26: only 9 seen from the other side", x.fits(9, 0), 10);
        due("26: the first of those", x.fits(9, 1), p(19, 5));
        due("26: tower 0 at the beginning, or hidden", x.fits(0, 0), 9 + 1);
        due("26: its first", x.fits(0, 1), p(1, 5));
    }

    // ---- promises 27, 28

    private static void changesNone() {
        refused("27: none", States::empty, NeverInLine::undo, STATE);
        refused("28: none", States::empty, NeverInLine::redo, STATE);
        refused("28: none undone", States::full, NeverInLine::redo, STATE);
        refused("27: towers, roads, forests are no changes", x -> {
            States.three(x);
            x.road(0, 1);
            x.forest(0, 1);
            x.sight(0, 0);
            States.law(x, "0");
        }, NeverInLine::undo, STATE);
        refused("27: the same numbers are none", x -> {
            States.three(x);
            x.mend(0, 0, 3);
            x.mend(0, 1, 1);
            x.mend(0, 2, 0);
        }, NeverInLine::undo, STATE);
        refused("27: refused ones are none", x -> {
            States.three(x);
            x.mend(0, 0, 10);
            x.mend(0, 1, -1);
            x.mend(3, 2, 1);
        }, NeverInLine::undo, STATE);
        refused("27: all undone", x -> {
            States.three(x);
            x.mend(0, 0, 9);
            x.undo();
        }, NeverInLine::undo, STATE);
        refused("28: all done again", x -> {
            States.three(x);
            x.mend(0, 0, 9);
            x.undo();
            x.redo();
        }, NeverInLine::redo, STATE);
    }

    private static int traits(NeverInLine x, int tower) {
        return 1000 * x.of(tower, 1) + 10 * x.of(tower, 2) + x.of(tower, 3);
    }

    private static void changesLatestFirst() {
        NeverInLine x = Twins.made(States::three);
        int[][] changes = {{0, 0, 9}, {2, 2, 1}, {1, 1, 99}, {0, 0, 0}, {0, 2, 1}, {0, 0, 9}, {1, 1, 0}};
        int[][] was = new int[changes.length + 1][3];
        for (int i = 0; i <= changes.length; i++) {
            for (int t = 0; t < 3; t++) {
                was[i][t] = traits(x, t);
            }
            if (i < changes.length) {
                x.mend(changes[i][0], changes[i][1], changes[i][2]);
                due("38: changes that may be undone", x.count(5), i + 1);
            }
        }
        for (int i = changes.length - 1; i >= 0; i--) {
            due("27: how many may still be", x.undo(), i);
            due("38: as many", x.count(5), i);
            for (int t = 0; t < 3; t++) {
                due("27: the latest first, tower " + t, traits(x, t), was[i][t]);
            }
        }
        for (int i = 1; i <= changes.length; i++) {
            due("28: how many may still be", x.redo(), changes.length - i);
            due("38: they may be undone again", x.count(5), i);
            for (int t = 0; t < 3; t++) {
                due("28: in their order, tower " + t, traits(x, t), was[i][t]);
            }
        }
    }

    /** Three changes to tower 0, two of them undone. */
    private static void twoUndone(NeverInLine x) {
        States.three(x);
        x.mend(0, 1, 10);
        x.mend(0, 1, 20);
        x.mend(0, 1, 30);
        x.undo();
        x.undo();
    }

    private static void changesDoneAgain() {
        NeverInLine x = Twins.made(SightEdgeTest::twoUndone);
        due("28: one still", x.redo(), 1);
        due("28: none still", x.redo(), 0);
        due("28: the third", x.of(0, 2), 30);
        NeverInLine other = Twins.made(SightEdgeTest::twoUndone);
        due("9: another one came behind", other.mend(2, 0, 9), 3);
        due("28: no more", other.redo(), STATE);
        due("27: that one first", other.undo(), 1);
        due("28: it may be done again, alone", other.redo(), 0);
        due("28: it is done", other.of(2, 1), 9);
        due("28: not those undone ahead of it", other.redo(), STATE);
        due("28: as it was", other.of(0, 2), 10);
        Consumer<NeverInLine> same = SightEdgeTest::twoUndone;
        TWINS.alike("28: the same number is no change", same.andThen(y -> y.mend(0, 1, 10)), same);
        TWINS.alike("28: a refused one is no change", same.andThen(y -> y.mend(0, 1, 100)), same);
        NeverInLine back = Twins.made(SightEdgeTest::twoUndone);
        back.tower(899, 0);
        back.road(0, 1);
        States.law(back, "1");
        due("28: towers, roads, laws do not come behind", back.redo(), 1);
        NeverInLine so = Twins.made(SightEdgeTest::twoUndone);
        so.mend(0, 1, 20);
        due("28: a change to what was undone is another one", so.redo(), STATE);
        due("27: two", so.count(5), 2);
    }

    private static void changesKept() {
        for (int many = 39; many <= 43; many++) {
            NeverInLine x = new NeverInLine();
            x.tower(0, 0);
            for (int i = 1; i <= many; i++) {
                due("9: it was", x.mend(0, 1, i), i - 1);
            }
            int kept = Math.min(many, 40);
            due("27: 40 at most are kept of " + many, x.count(5), kept);
            for (int i = kept - 1; i >= 0; i--) {
                due("27: may still be", x.undo(), i);
            }
            due("27: no more", x.undo(), STATE);
            due("27: the ones ahead stay", x.of(0, 2), many - kept);
            for (int i = kept - 1; i >= 0; i--) {
                due("28: may still be", x.redo(), i);
            }
            due("28: no more", x.redo(), STATE);
            due("28: the last one", x.of(0, 2), many);
        }
        NeverInLine y = Twins.made(States::full);
        y.undo();
        due("27: 39", y.count(5), 39);
        due("9: the fortieth again", y.mend(1, 0, 9), 3);
        due("27: 40", y.count(5), 40);
        due("9: one more", y.mend(1, 0, 8), 9);
        due("27: still 40", y.count(5), 40);
        due("27: 39 still", y.undo(), 39);
        due("27: it was 9", y.of(1, 1), 9);
    }

    /** More changes than are kept, of each tower and sort; what the towers are told as after each of them. */
    private static int[][] mixed(NeverInLine x) {
        States.three(x);
        int[][] traits = {{3, 1, 0}, {3, 2, 0}, {3, 4, 0}};
        int[][] told = new int[MIXED + 1][3];
        for (int i = 0; i <= MIXED; i++) {
            for (int t = 0; t < 3; t++) {
                told[i][t] = 1000 * traits[t][0] + 10 * traits[t][1] + traits[t][2];
            }
            int tower = i % 3;
            int what = i / 3 % 3;
            int v = what == 0 ? (traits[tower][0] + 2) % 10 : what == 1 ? 50 + i : 1 - traits[tower][2];
            if (i < MIXED) {
                due("9: it was", x.mend(tower, what, v), traits[tower][what]);
            }
            traits[tower][what] = v;
        }
        return told;
    }

    private static void changesMixed() {
        NeverInLine x = new NeverInLine();
        int[][] told = mixed(x);
        for (int i = MIXED - 1; i >= MIXED - 40; i--) {
            due("27: of 40 kept", x.undo(), i - (MIXED - 40));
            for (int t = 0; t < 3; t++) {
                due("27: change " + i + " undone, tower " + t, traits(x, t), told[i][t]);
            }
        }
        due("27: the seven ahead are not kept", x.undo(), STATE);
        NeverInLine y = new NeverInLine();
        mixed(y);
        for (int i = 0; i < 40; i++) {
            y.undo();
        }
        for (int i = MIXED - 39; i <= MIXED; i++) {
            due("28: of 40 kept", y.redo(), MIXED - i);
            for (int t = 0; t < 3; t++) {
                due("28: change " + i + " done again, tower " + t, traits(y, t), told[i][t]);
            }
        }
    }

    private static void changesTogether() {
        NeverInLine x = Twins.made(States::three);
        x.road(p(0, 5), p(0, 6));
        x.mend(0, 0, 0);
        due("27: 0 and 3 are in line", x.guilts(-1), 3);
        x.mend(1, 0, 4);
        due("27: 0 and 4 are not", x.guilts(-1), 2);
        due("16: a higher one behind is seen", x.seen(p(0, 5)), 3);
        x.undo();
        due("27: lines are as they were", x.guilts(-1), 3);
        due("27: 3 behind 0 is seen, 3 behind 3 not", x.seen(p(0, 5)), 3);
        x.redo();
        due("28: lines are as told", x.guilts(-1), 2);
        States.law(x, "o");
        due("27: none is old", x.guilts(-1), 0);
        x.mend(1, 2, 1);
        due("9: one is old", x.guilts(-1), 2);
        x.undo();
        due("27: none any more", x.guilts(-1), 0);
        x.redo();
        due("28: one again", x.guilts(-1), 2);
        x.mend(0, 1, 0);
        States.law(x, "1");
        due("20: by the price", x.cheapest(1), 2);
        x.undo();
        due("27: by the price as it was", x.cheapest(1), 3);
    }
}

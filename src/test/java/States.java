/** States that the edge tests begin with. */
final class States {
    private States() { }

    static int p(int x, int y) {
        return 30 * y + x;
    }

    static void feedAll(NeverInLine x, String text) {
        for (int i = 0; i < text.length(); i++) {
            x.feed(text.charAt(i));
        }
    }

    static int law(NeverInLine x, String text) {
        feedAll(x, text);
        return x.law();
    }

    static void empty(NeverInLine x) { }

    /** Towers of height 3 at (5, 5), (10, 5), (15, 5). */
    static void three(NeverInLine x) {
        x.tower(p(5, 5), 3010);
        x.tower(p(10, 5), 3020);
        x.tower(p(15, 5), 3040);
    }

    /** Something of each sort, and room for more of each. */
    static void rich(NeverInLine x) {
        three(x);
        x.tower(p(15, 15), 9051);
        x.road(p(0, 0), p(0, 29));
        x.corner(0, p(29, 29));
        x.road(p(2, 2), p(29, 2));
        x.forest(p(7, 6), p(7, 9));
        x.forest(p(20, 4), p(22, 7));
        law(x, "b<a+4|n=2");
        x.mend(0, 0, 4);
        x.mend(0, 1, 25);
        x.mend(1, 2, 1);
        x.mend(0, 1, 11);
        x.undo();
        feedAll(x, "k=0&");
        x.sight(p(0, 5), 9);
        x.sight(p(29, 29), 15);
        for (int kind = 0; kind < 8; kind++) {
            x.body(kind);
        }
        x.act(7, 3, 5);
        shelves(x);
    }

    /** Shorts, ints, a body of kind 3, nothing, booleans, longs; some of the body's and rows' places are used. */
    private static void shelves(NeverInLine x) {
        x.row(0, 1, 7);
        int[] cells = {400, 5, 6, 401, 7, 8, 402};
        for (int i = 0; i < cells.length; i++) {
            x.put(0, i, cells[i]);
        }
        x.row(1, 2, 4);
        x.put(1, 3, -70000);
        x.keep(2, 3);
        x.row(4, 4, 2);
        x.put(4, 1, 1);
        x.row(5, 3, 3);
        x.put(5, 2, Long.MAX_VALUE);
    }

    /** As much of each sort as there can be; the changes of which more than 40 came were made to tower 0. */
    static void full(NeverInLine x) {
        three(x);
        for (int i = 3; i < 10; i++) {
            x.tower(p(3 * i, 20), 1000 * i + 10 * i);
        }
        for (int r = 0; r < 4; r++) {
            x.road(p(0, r), p(0, 28 - r));
        }
        for (int i = 0; i < 4; i++) {
            x.corner(0, p(28, 28 - i));
        }
        for (int f = 0; f < 8; f++) {
            x.forest(p(f, 10), p(f, 12));
        }
        for (int i = 0; i < 42; i++) {
            x.mend(0, 1, 30 + i);
        }
        for (int i = 0; i < 10; i++) {
            x.sight(p(0, i), 1020 + i % 4);
        }
        for (int i = 0; i < 50; i++) {
            x.body(i % 8);
        }
        x.act(15, 3, 5);
        feedAll(x, "a+".repeat(60));
        x.row(0, 1, 3);
        x.keep(5, 49);
    }
}

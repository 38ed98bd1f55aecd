/** Each promise of the document by answers that were worked out by hand: ordinary inputs, edges, wrong inputs. */
final class PromiseTest {
    private static final int BAD = NeverInLine.BAD, NOT = NeverInLine.NOT, FULL = NeverInLine.FULL, STATE = NeverInLine.STATE;
    private static final int MIN = Integer.MIN_VALUE, MAX = Integer.MAX_VALUE;
    private static final Check CHECK = new Check("promises");

    private PromiseTest() { }

    public static void main(String[] args) {
        newObject();
        tower();
        towers();
        road();
        corner();
        forest();
        feed();
        lawFaults();
        lawValues();
        lawNames();
        mend();
        of();
        line();
        stoppedLine();
        guilty();
        guilts();
        which();
        led();
        seen();
        free();
        years();
        fewest();
        cheapest();
        moved();
        bent();
        newly();
        game();
        sight();
        fits();
        undoRedo();
        body();
        act();
        trace();
        keep();
        row();
        put();
        element();
        shift();
        taken();
        count();
        CHECK.end();
    }

    private static void due(String call, long got, long want) {
        CHECK.due(call, got, want);
    }

    private static int p(int x, int y) {
        return 30 * y + x;
    }

    private static void feedAll(NeverInLine x, String text) {
        for (int i = 0; i < text.length(); i++) {
            x.feed(text.charAt(i));
        }
    }

    private static int law(NeverInLine x, String text) {
        feedAll(x, text);
        return x.law();
    }

    /** Towers at (5, 5), (10, 5), (15, 5) with heights 3, 3, 3, and nothing else. */
    private static NeverInLine threeInLine() {
        NeverInLine x = new NeverInLine();
        x.tower(p(5, 5), 3010);
        x.tower(p(10, 5), 3020);
        x.tower(p(15, 5), 3040);
        return x;
    }

    private static void newObject() {
        NeverInLine x = new NeverInLine();
        for (int what = 0; what <= 7; what++) {
            due("1: count " + what, x.count(what), 0);
        }
        due("1: seen", x.seen(0), 0);
        due("1: guilts", x.guilts(-1), 0);
        due("1: element", x.element(0, 0), Long.MIN_VALUE);
        due("1: BAD", NeverInLine.BAD, -1);
        due("1: NOT", NeverInLine.NOT, -2);
        due("1: FULL", NeverInLine.FULL, -3);
        due("1: STATE", NeverInLine.STATE, -5);
        due("1: VOID", NeverInLine.VOID, -2000000000);
    }

    private static void tower() {
        NeverInLine x = new NeverInLine();
        for (int wrong : new int[] {-1, 900, MIN, MAX}) {
            due("2: point " + wrong, x.tower(wrong, 0), BAD);
        }
        for (int wrong : new int[] {-1, 2, 9, 9992, 10000, 12341, MIN, MAX}) {
            due("2: hp " + wrong, x.tower(0, wrong), BAD);
        }
        due("2: none came", x.count(0), 0);
        due("2: first", x.tower(0, 0), 0);
        due("2: second", x.tower(899, 9991), 1);
        due("2: height", x.of(1, 1), 9);
        due("2: price", x.of(1, 2), 99);
        due("2: old", x.of(1, 3), 1);
        due("2: one is there", x.tower(899, 0), BAD);
        for (int i = 2; i < 10; i++) {
            due("2: more", x.tower(100 + i, 10 * i), i);
        }
        due("2: full", x.tower(500, 0), FULL);
        due("2: bad ahead of full", x.tower(899, 0), BAD);
        due("2: bad ahead of full, too", x.tower(500, 2), BAD);
        due("2: still ten", x.count(0), 10);
    }

    private static void towers() {
        NeverInLine x = new NeverInLine();
        due("3: missing", x.towers(0, 0, 1), 0);
        due("3: missing, any place", x.towers(0, -5, 1), 0);
        due("3: no shelf", x.towers(6, 0, 1), BAD);
        due("3: no shelf below", x.towers(-1, 0, 1), BAD);
        due("3: none wanted", x.towers(0, 0, 0), BAD);
        due("3: too many wanted", x.towers(0, 0, 11), BAD);
        x.row(0, 2, 9);
        due("3: ints", x.towers(0, 0, 1), -12);
        due("3: bad ahead of -12", x.towers(0, 0, 11), BAD);
        x.body(0);
        x.keep(0, 0);
        due("3: a body", x.towers(0, 0, 1), -12);
        x.row(0, 1, 8);
        int[] cells = {100, 9, 99, 200, 0, 0, 300, 1};
        for (int i = 0; i < cells.length; i++) {
            x.put(0, i, cells[i]);
        }
        due("3: ends within a three", x.towers(0, 6, 1), 0);
        due("3: beyond", x.towers(0, 8, 1), 0);
        due("3: far beyond", x.towers(0, MAX, 10), 0);
        due("3: ahead of it", x.towers(0, -1, 1), 0);
        due("3: two came", x.towers(0, 0, 10), 2);
        due("3: point", x.of(0, 0), 100);
        due("3: height", x.of(0, 1), 9);
        due("3: price", x.of(0, 2), 99);
        due("3: not old", x.of(0, 3), 0);
        due("3: one is there", x.towers(0, 0, 10), 0);
        due("3: from place 1 on the three is 9, 99, 200", x.towers(0, 1, 1), 0);
        x.row(1, 1, 60);
        for (int i = 0; i < 20; i++) {
            x.put(1, 3 * i, 400 + i);
        }
        due("3: as many as told", x.towers(1, 3, 2), 2);
        due("3: those", x.of(2, 0), 401);
        x.put(1, 3 * 6 + 1, 10);
        due("3: one is not so", x.towers(1, 9, 10), 3);
        due("3: full", x.towers(1, 21, 10), 3);
        due("3: ten", x.count(0), 10);
        due("3: full at once", x.towers(1, 45, 1), 0);
        NeverInLine y = new NeverInLine();
        y.row(0, 1, 3);
        y.put(0, 2, 100);
        due("3: price 100", y.towers(0, 0, 1), 0);
        y.put(0, 2, 0);
        y.put(0, 0, 900);
        due("3: point 900", y.towers(0, 0, 1), 0);
        y.put(0, 0, -1);
        due("3: point -1", y.towers(0, 0, 1), 0);
        y.put(0, 0, 0);
        y.put(0, 1, -1);
        due("3: height -1", y.towers(0, 0, 1), 0);
        y.put(0, 1, 0);
        due("3: a row of zeros", y.towers(0, 0, 1), 1);
    }

    private static void road() {
        NeverInLine x = new NeverInLine();
        due("4: alike", x.road(5, 5), BAD);
        due("4: a", x.road(-1, 5), BAD);
        due("4: b", x.road(5, 900), BAD);
        for (int i = 0; i < 4; i++) {
            due("4: road", x.road(0, 899), i);
        }
        due("4: full", x.road(0, 1), FULL);
        due("4: bad ahead of full", x.road(1, 1), BAD);
    }

    private static void corner() {
        NeverInLine x = new NeverInLine();
        due("5: no road", x.corner(0, 7), BAD);
        x.road(0, 1);
        due("5: like the last", x.corner(0, 1), BAD);
        due("5: point", x.corner(0, 900), BAD);
        due("5: road", x.corner(-1, 9), BAD);
        due("5: like the first", x.corner(0, 0), 3);
        due("5: fourth", x.corner(0, 1), 4);
        due("5: fifth", x.corner(0, 2), 5);
        due("5: sixth", x.corner(0, 3), 6);
        due("5: full", x.corner(0, 4), FULL);
        due("5: bad ahead of full", x.corner(0, 3), BAD);
    }

    private static void forest() {
        NeverInLine x = new NeverInLine();
        due("6: alike", x.forest(3, 3), BAD);
        due("6: a", x.forest(900, 3), BAD);
        due("6: b", x.forest(3, -1), BAD);
        for (int i = 0; i < 8; i++) {
            due("6: forest", x.forest(0, 899), i);
        }
        due("6: full", x.forest(0, 1), FULL);
        due("6: bad ahead of full", x.forest(1, 1), BAD);
    }

    private static void feed() {
        NeverInLine x = new NeverInLine();
        due("7: below", x.feed(-1), BAD);
        due("7: above", x.feed(256), BAD);
        due("7: 255", x.feed(255), 1);
        due("7: 0", x.feed(0), 2);
        for (int i = 3; i <= 120; i++) {
            due("7: more", x.feed('a'), i);
        }
        due("7: full", x.feed('a'), FULL);
        due("7: bad ahead of full", x.feed(256), BAD);
        due("7: on the tape", x.count(4), 120);
        due("7: its fault", x.law(), -100);
        due("7: empty then", x.count(4), 0);
        for (int i = 0; i < 60; i++) {
            x.feed('a');
            x.feed('+');
        }
        due("7: 120 bytes that end too early", x.law(), -220);
        for (int i = 0; i < 60; i++) {
            x.feed(i == 0 ? '-' : '+');
            x.feed('a');
        }
        due("7: 120 bytes", x.law(), 1);
    }

    private static void lawFaults() {
        Object[][] rows = {
            {"", 0}, {"x", 0}, {" a", 0}, {"a b", 1}, {"a?", 2}, {"a;", 2}, {"a?b?c", 3}, {"a;;b", 2}, {"?a", 0}, {"(a?b)", 2},
            {"(a;b)", 2}, {"12345", 4}, {"0000", -1}, {"1a", 1}, {"a1", 1}, {"ab", 1}, {"a<b<o", 3}, {"a<b=o", 3}, {"a<b&o>k", -1},
            {"(a<b)<o", -1}, {"a<(b<o)", -1}, {"a<b+o<k", 5}, {"a<b|o<k&n=m", -1}, {"a+", 2}, {"a+*b", 2}, {"a--b", -1}, {"a-!b", -1},
            {"!", 1}, {"-", 1}, {"(", 1}, {"()", 1}, {"(a", 2}, {"(a))", 3}, {")", 0}, {"a)", 1}, {"a!", 1}, {"a(b)", 1}, {"(a)(b)", 3},
            {"!!!!!!a", -1}, {"!!!!!!!a", 6}, {"((((((a))))))", -1}, {"(((((((a", 6}, {"-(-(-(a)))", -1}, {"-(-(-(-a)))", 6},
            {"!!!!!!a+!!!!!!b", -1}, {"(!!!!!a)*------b", -1}, {"(!!!!!a*!!!!!!b)", 13}, {"((((((a))))))+((((((b))))))", -1},
            {"-(((((a+b)))))", -1}, {"-(((((-b)))))", 6}, {"!a?!b;!o", -1}, {"a<b?a>b;a=b", -1}, {"a<b?a>b>o", 7}, {"A", 0},
            {"a" + (char) 225, 1}, {"a||b", 2}, {"a&&b", 2}, {"a==b", 2}, {"a=!b", -1}, {"a!=b", 1}, {"12(3)", 2}, {"9999*9999", -1},
            {"a%b/o*k", -1}, {"c", 0}, {"a+l", 2}, {"a;b?o;", 6}, {"a?;b", 2}, {"(a)1", 3}, {"!1234", -1}, {"!12345", 5},
        };
        for (Object[] row : rows) {
            NeverInLine x = new NeverInLine();
            int fault = (Integer) row[1];
            due("8: " + row[0], law(x, (String) row[0]), fault < 0 ? 1 : -100 - fault);
            due("8: empty then", x.count(4), 0);
        }
        NeverInLine x = threeInLine();
        due("8: a law", law(x, "0"), 1);
        due("8: it stands", x.line(1, p(0, 5), 0), 0);
        due("8: a fault", law(x, "1+"), -102);
        due("8: the law is as it was", x.line(1, p(0, 5), 0), 0);
        due("8: an empty tape", x.law(), -100);
        due("8: the law is as it was, too", x.line(1, p(0, 5), 0), 0);
        due("8: another law", law(x, "1"), 1);
        due("8: it counts", x.line(1, p(0, 5), 0), 1);
    }

    private static void lawValues() {
        String[] true_ = {
            "2+3*4=14", "2*3+4=10", "10-4-3=3", "100/7/2=7", "-7/2=-3", "-7%3=-1", "7%-3=1", "7/-2=-3", "5/0=0", "5%0=0", "0/0=0", "!0=1", "!5=0",
            "!-5=0", "-!0=-1", "--3=3", "-2*3=-6", "!0*3=3", "!(0*3)=1", "(2|0)=1", "(0|0)=0", "(7&9)=1", "(7&0)=0", "(3<4)=1",
            "(4<3)=0", "(4>3)=1", "(3=3)=1", "1|0&0", "(1|0)&1", "2-1", "-1", "0-5+5+1",
            "0?0;1", "1?1;0", "0?1;0?1;1", "0?0;2?3;0", "9999*9999=9998*1000*10+1",
            "(1<2)+(2<3)=2", "1+1<1+2", "2*2=2+2", "0|0|7", "3&4&5", "1<2&2<3&3<4", "0&1|1", "!(1&0)", "0001=1", "0|2=2", "1|0=1&0",
            "(9999*9999*22)/-1+9999*9999*22=0",
        };
        String[] false_ = {
            "0", "1-1", "!1", "0?1", "0?1;0?1", "1?0;1", "0;1", "1&0", "0|0", "2=3", "3<3", "3>3", "5/9", "5%5", "2&4=1", "0&1|0",
        };
        for (String text : true_) {
            NeverInLine x = threeInLine();
            due("8: " + text, law(x, text), 1);
            due("8: counts " + text, x.line(1, p(0, 5), 0), 1);
        }
        for (String text : false_) {
            NeverInLine x = threeInLine();
            due("8: " + text, law(x, text), 1);
            due("8: does not count " + text, x.line(1, p(0, 5), 0), 0);
        }
        NeverInLine wraps = threeInLine();
        // 9999 ^ 3 keeps its lowest 32 bits.
        due("8: wraps", law(wraps, "9999*9999*9999=-(1024*1024*1025)+((" + offset() + "))"), 1);
        due("8: counts wrapped", wraps.line(1, p(0, 5), 0), 1);
    }

    /** 9999 * 9999 * 9999 as an int, less -(1024 * 1024 * 1025), told by numbers of four digits. */
    private static String offset() {
        int v = 9999 * 9999 * 9999 + 1024 * 1024 * 1025;
        String sign = v < 0 ? "-" : "";
        int rest = Math.abs(v);
        return sign + "(" + rest / 1000000 + "*1000*1000+" + rest / 1000 % 1000 + "*1000+" + rest % 1000 + ")";
    }

    private static void lawNames() {
        NeverInLine x = new NeverInLine();
        x.tower(p(5, 5), 2000);
        x.tower(p(20, 20), 0);
        x.tower(p(10, 5), 7001);
        x.tower(p(15, 5), 9001);
        Object[][] rows = {
            // text, pair, from, k, answer
            {"a=2&b=7", 2, p(0, 5), 0, 1}, {"a=2&b=7", 20, p(0, 5), 0, 1}, {"a=7&b=2", 2, p(29, 5), 0, 1}, {"a=2", 2, p(29, 5), 0, 0},
            {"o=1", 2, p(0, 5), 0, 1}, {"o=2", 23, p(0, 5), 0, 1}, {"o=0", 1, p(0, 0), 0, 1}, {"o", 1, p(0, 0), 0, 0},
            {"k=4", 2, p(0, 5), 4, 1}, {"k=4", 2, p(0, 5), 3, 0}, {"n=0&m=2", 20, p(29, 5), 0, 1}, {"n=2&m=3", 32, p(0, 5), 1, 1},
            {"n*10+m=23", 23, p(29, 5), 0, 1}, {"n>m", 23, p(29, 5), 0, 0},
        };
        for (Object[] row : rows) {
            law(x, (String) row[0]);
            due("8: " + row[0] + " for " + row[1] + " from " + row[2], x.line((Integer) row[1], (Integer) row[2], (Integer) row[3]), (Integer) row[4]);
        }
    }

    private static void mend() {
        NeverInLine x = new NeverInLine();
        x.tower(0, 3451);
        due("9: height", x.mend(0, 0, 9), 3);
        due("9: again", x.mend(0, 0, 9), 9);
        due("9: price", x.mend(0, 1, 99), 45);
        due("9: old", x.mend(0, 2, 0), 1);
        due("9: it is", x.of(0, 1) * 1000 + x.of(0, 2) * 10 + x.of(0, 3), 9990);
        int[][] wrong = {{1, 0, 0}, {-1, 0, 0}, {0, 3, 0}, {0, -1, 0}, {0, 0, 10}, {0, 0, -1}, {0, 1, 100}, {0, 1, -1}, {0, 2, 2}, {0, 2, -1}};
        for (int[] w : wrong) {
            due("9: wrong", x.mend(w[0], w[1], w[2]), BAD);
        }
        due("9: three changes", x.count(5), 3);
        NeverInLine y = threeInLine();
        due("9: in line", y.line(1, p(0, 5), 0), 1);
        y.mend(1, 0, 7);
        due("9: too high", y.line(1, p(0, 5), 0), 0);
        y.mend(0, 0, 4);
        due("9: 7 is no more than 4 and 3", y.line(1, p(0, 5), 0), 1);
    }

    private static void of() {
        NeverInLine x = new NeverInLine();
        due("10: no tower", x.of(0, 0), BAD);
        due("10: no road", x.of(0, 10), BAD);
        x.tower(77, 1231);
        x.road(5, 6);
        x.corner(0, 7);
        int[][] rows = {{0, 77}, {1, 1}, {2, 23}, {3, 1}, {4, BAD}, {-1, BAD}, {9, BAD}, {10, 3}, {11, BAD}, {19, BAD}, {20, 5}, {21, 6}, {22, 7}, {23, BAD}, {MAX, BAD}, {MIN, BAD}};
        for (int[] row : rows) {
            due("10: what " + row[0], x.of(0, row[0]), row[1]);
        }
        due("10: other tower", x.of(1, 0), BAD);
        due("10: other road", x.of(1, 20), BAD);
        due("10: below", x.of(-1, 0), BAD);
    }

    private static void line() {
        NeverInLine x = threeInLine();
        due("11: one and the same", x.line(11, 0, 0), BAD);
        due("11: no tower", x.line(3, 0, 0), BAD);
        due("11: below", x.line(-1, 0, 0), BAD);
        due("11: large", x.line(101, 0, 0), BAD);
        due("11: point", x.line(1, 900, 0), BAD);
        due("11: k 5", x.line(1, 0, 5), BAD);
        due("11: k -1", x.line(1, 0, -1), BAD);
        due("11: beside", x.line(1, 0, 0), 0);
        due("11: from the left", x.line(1, p(0, 5), 4), 1);
        due("11: from the right", x.line(10, p(29, 5), 0), 1);
        due("11: between", x.line(1, p(7, 5), 0), 0);
        due("11: at one", x.line(1, p(5, 5), 0), 0);
        due("11: at the other", x.line(1, p(10, 5), 0), 0);
        due("11: at a third", x.line(1, p(15, 5), 0), 1);
        x.mend(2, 0, 7);
        due("11: b 7, a 3", x.line(2, p(0, 5), 0), 0);
        due("11: b 3, a 7", x.line(2, p(29, 5), 0), 1);
        x.mend(2, 0, 6);
        due("11: b 6, a 3", x.line(2, p(0, 5), 0), 1);
    }

    private static void stoppedLine() {
        int[][] rows = {
            // forest from, to, whether 0 and 1 are in line from (0, 5)
            {p(3, 4), p(3, 6), 0}, {p(3, 5), p(3, 9), 0}, {p(3, 6), p(3, 9), 1}, {p(0, 4), p(0, 6), 1}, {p(10, 4), p(10, 6), 1},
            {p(11, 4), p(11, 6), 1}, {p(5, 4), p(5, 6), 0}, {p(7, 4), p(7, 6), 0}, {p(0, 5), p(10, 5), 0}, {p(10, 5), p(20, 5), 1},
            {p(9, 5), p(20, 5), 0}, {p(2, 5), p(3, 5), 0}, {p(0, 6), p(10, 6), 1}, {p(0, 4), p(29, 6), 1}, {p(0, 4), p(10, 6), 0}, {p(1, 4), p(8, 6), 0}, {p(0, 5), p(9, 9), 1}, {p(10, 5), p(0, 0), 1},
            {p(3, 0), p(4, 29), 0}, {p(0, 5), p(1, 5), 0},
        };
        for (int[] row : rows) {
            NeverInLine x = threeInLine();
            x.forest(row[0], row[1]);
            due("2, 11: forest " + row[0] + " " + row[1], x.line(1, p(0, 5), 0), row[2]);
        }
    }

    private static void guilty() {
        NeverInLine x = threeInLine();
        x.road(p(0, 0), p(0, 29));
        x.corner(0, p(12, 5));
        x.corner(0, p(2, 5));
        x.corner(0, p(1, 5));
        due("12: above", x.guilty(0, 1, 0), 5);
        due("12: below", x.guilty(0, 1, 1), 29);
        due("12: turned", x.guilty(0, 10, 1), 29);
        due("12: at its end (12, 5), behind 0 and 1", x.guilty(1, 1, 0) * 10 + x.guilty(1, 1, 1), 11);
        due("12: (12, 5) is between 1 and 2", x.guilty(1, 12, 0), NOT);
        due("12: along, first corner", x.guilty(2, 1, 0) * 10 + x.guilty(2, 1, 1), 1);
        due("12: along, last corner", x.guilty(2, 12, 0) * 10 + x.guilty(2, 12, 1), 11);
        due("12: along, both, the first", x.guilty(3, 12, 0) * 10 + x.guilty(3, 12, 1), 1);
        due("12: no stretch", x.guilty(4, 1, 0), BAD);
        due("12: no road", x.guilty(10, 1, 0), BAD);
        due("12: below 0", x.guilty(-1, 1, 0), BAD);
        due("12: no tower", x.guilty(0, 13, 0), BAD);
        due("12: one and the same", x.guilty(0, 22, 0), BAD);
        due("12: part", x.guilty(0, 1, 2), BAD);
        due("12: part below", x.guilty(0, 1, -1), BAD);
        NeverInLine y = new NeverInLine();
        // The line y = x / 2 meets the way from (6, 0) to (6, 29), and that from (20, 0) to (20, 7), at y = 3 and y = 10.
        y.tower(p(10, 5), 0);
        y.tower(p(12, 6), 0);
        y.road(p(6, 0), p(6, 29));
        y.road(p(20, 0), p(20, 7));
        y.road(p(4, 0), p(4, 8));
        y.road(p(5, 0), p(5, 1));
        y.road(p(9, 0), p(9, 1));
        due("12: 3 / 29", y.guilty(0, 1, 0) * 100 + y.guilty(0, 1, 1), 329);
        due("12: too short", y.guilty(10, 1, 0), NOT);
        due("12: 2 / 8 in lowest terms", y.guilty(20, 1, 0) * 100 + y.guilty(20, 1, 1), 104);
        due("12: 2.5 is beyond 1", y.guilty(30, 1, 0), NOT);
        y.forest(p(7, 3), p(7, 4));
        due("12: a forest at (7, 3.5)", y.guilty(0, 1, 0), NOT);
        NeverInLine z = new NeverInLine();
        z.tower(p(10, 5), 0);
        z.tower(p(12, 6), 0);
        z.road(p(5, 0), p(5, 5));
        z.corner(0, p(29, 5));
        z.corner(0, p(29, 20));
        due("12: 2.5 / 5", z.guilty(0, 1, 0) * 100 + z.guilty(0, 1, 1), 102);
        due("12: at a tower's point", z.guilty(1, 1, 0), NOT);
        due("12: 9.5 / 15", z.guilty(2, 1, 0) * 100 + z.guilty(2, 1, 1), 1930);
        z.forest(p(5, 2), p(5, 3));
        due("12: a forest along the road, met at the way's end", z.guilty(0, 1, 1), 2);
        z.forest(p(6, 2), p(6, 3));
        due("12: a forest beside it that has (6, 3)", z.guilty(0, 1, 1), NOT);
        law(z, "k=1");
        due("12: the law wants road 1", z.guilty(2, 1, 0), NOT);
        z.road(p(29, 0), p(29, 29));
        due("12: road 1", z.guilty(10, 1, 0) * 100 + z.guilty(10, 1, 1), 102);
    }

    private static void guilts() {
        NeverInLine x = threeInLine();
        due("13: no road", x.guilts(0), BAD);
        due("13: none", x.guilts(-1), 0);
        x.road(p(0, 0), p(0, 29));
        x.corner(0, p(0, 5));
        x.road(p(29, 0), p(29, 29));
        due("13: three pairs on two stretches", x.guilts(0), 6);
        due("13: three on one", x.guilts(1), 3);
        due("13: all", x.guilts(-1), 9);
        due("13: no road 2", x.guilts(2), BAD);
        due("13: -2", x.guilts(-2), BAD);
        law(x, "n=0&m=2|k=1&m=2");
        due("13: by law, road 0", x.guilts(0), 2);
        due("13: by law, road 1", x.guilts(1), 2);
    }

    private static void which() {
        NeverInLine x = threeInLine();
        due("14: lawful", x.which(0), NOT);
        due("14: what ahead", x.which(4), BAD);
        due("14: what below", x.which(-1), BAD);
        x.road(p(0, 9), p(0, 10));
        x.road(p(1, 9), p(1, 6));
        x.corner(1, p(1, 5));
        law(x, "n=1");
        due("14: road", x.which(0), 1);
        due("14: stretch", x.which(1), 1);
        due("14: lesser", x.which(2), 1);
        due("14: other", x.which(3), 2);
        law(x, "1");
        due("14: the first pair", x.which(2) * 10 + x.which(3), 1);
        NeverInLine y = threeInLine();
        y.road(p(0, 0), p(0, 9));
        y.corner(0, p(0, 0));
        due("14: road 0, stretch 0", y.which(0) * 10 + y.which(1), 0);
    }

    private static void led() {
        NeverInLine x = threeInLine();
        x.road(p(0, 0), p(0, 29));
        x.corner(0, p(0, 5));
        law(x, "m=1|n=1");
        due("15: 0", x.led(0), 2);
        due("15: 1", x.led(1), 4);
        due("15: 2", x.led(2), 2);
        due("15: no tower", x.led(3), BAD);
        due("15: below", x.led(-1), BAD);
    }

    private static void seen() {
        NeverInLine x = threeInLine();
        due("16: no less height hides", x.seen(p(0, 5)), 1);
        due("16: from the right", x.seen(p(29, 5)), 4);
        due("16: beside", x.seen(0), 7);
        due("16: at one", x.seen(p(10, 5)), 5);
        due("16: at the first", x.seen(p(5, 5)), 2);
        x.mend(1, 0, 4);
        due("16: a higher one behind", x.seen(p(0, 5)), 3);
        x.mend(2, 0, 9);
        due("16: all higher", x.seen(p(0, 5)), 7);
        x.mend(0, 0, 9);
        due("16: hidden by the first", x.seen(p(0, 5)), 1);
        x.forest(p(7, 4), p(7, 6));
        x.mend(0, 0, 0);
        due("16: stopped", x.seen(p(0, 5)), 1);
        due("16: stopped from the right", x.seen(p(29, 5)), 4);
        x.forest(p(29, 5), p(28, 5));
        due("16: a forest from the point on", x.seen(p(29, 5)), 0);
        due("16: point", x.seen(900), BAD);
        due("16: point below", x.seen(-1), BAD);
    }

    private static void free() {
        NeverInLine x = new NeverInLine();
        due("17: y", x.free(30, 0, 0), BAD);
        due("17: y below", x.free(-1, 0, 0), BAD);
        due("17: height", x.free(0, 10, 0), BAD);
        due("17: what", x.free(0, 0, 2), BAD);
        x.road(p(0, 0), p(0, 9));
        due("17: a corner", x.free(0, 0, 0), 29);
        due("17: the first", x.free(0, 0, 1), 1);
        due("17: on the road", x.free(5, 0, 0), 30);
        x.tower(p(10, 5), 0);
        // From (0, 5) on to (9, 5) two would be in line for the road's point (0, 5), and beyond (10, 5), too; at (0, 5) itself none.
        due("17: in the row of the tower", x.free(5, 0, 0), 1);
        due("17: the first there", x.free(5, 0, 1), 0);
        due("17: so high that it does not count", x.free(5, 4, 0), 20);
        due("17: nearer ones count", x.free(5, 4, 1), 0);
        due("17: the column of the tower", x.free(29, 0, 0), 30 - lit(29));
        law(x, "m=2");
        due("17: its number is 1", x.free(5, 0, 0), 29);
        law(x, "m=1");
        due("17: its number is 1, guilty", x.free(5, 0, 0), 1);
        for (int i = 1; i < 10; i++) {
            x.tower(p(29, i), 0);
        }
        due("17: ten towers", x.free(0, 0, 0), STATE);
        due("17: bad ahead", x.free(0, 0, 2), BAD);
    }

    /** At how many x of a row y, far below, the line to (10, 5) meets the road from (0, 0) to (0, 9) outside of both. */
    private static int lit(int y) {
        int many = 0;
        for (int x = 0; x < 30; x++) {
            // The line at x = 0 is at 5 - 10 (y - 5) / (x - 10); it has to lie beyond (10, 5) as seen from (x, y).
            if (x > 10 && 5 * (x - 10) >= 10 * (y - 5)) {
                many++;
            }
        }
        return many;
    }

    private static void years() {
        NeverInLine x = new NeverInLine();
        due("18: ten come", x.years(0, 0), 10);
        due("18: the last", x.years(0, 1), 9);
        due("18: in thought", x.count(0), 0);
        due("18: height", x.years(10, 0), BAD);
        due("18: height below", x.years(-1, 0), BAD);
        due("18: what", x.years(0, 2), BAD);
        x.tower(0, 0);
        x.tower(3, 0);
        due("18: eight more", x.years(5, 0), 8);
        due("18: the last of them", x.years(5, 1), 9);
        x.road(1, 2);
        // In row 0 from 4 on, the road sees them behind tower 1; what comes in row 1 is seen from no point of the road in line.
        law(x, "n=0&m=2");
        due("18: tower 2 sees no place in line with 0", x.years(5, 0), 8);
        NeverInLine y = new NeverInLine();
        y.road(p(0, 0), p(29, 0));
        y.corner(0, p(29, 29));
        y.corner(0, p(0, 29));
        y.corner(0, p(0, 0));
        // Two are in line from where their line leaves the square, unless both stand on its edge, on two sides of it.
        due("18: a square of roads: one comes to each side", y.years(0, 0), 4);
        due("18: the last one by the third corner", y.years(0, 1), p(1, 29));
        y.tower(p(10, 10), 0);
        due("18: none", y.years(0, 0), 0);
        due("18: nowhere", y.years(0, 1), NOT);
        law(y, "m=1");
        due("18: tower 1 not, and then none tries", y.years(0, 0), 0);
        law(y, "m=2");
        due("18: tower 1, then no tower 2", y.years(0, 0), 1);
        for (int i = 0; i < 9; i++) {
            y.tower(500 + i, 0);
        }
        due("18: ten stand", y.years(0, 0), 0);
        due("18: ten stand, nowhere", y.years(0, 1), NOT);
    }

    private static void fewest() {
        NeverInLine x = threeInLine();
        due("19: lawful", x.fewest(), 0);
        x.road(p(0, 0), p(0, 29));
        due("19: two of three, the least", x.fewest(), 3);
        law(x, "n=1|m=1");
        due("19: the one in between", x.fewest(), 2);
        law(x, "n=1");
        due("19: of like ones the least", x.fewest(), 2);
        law(x, "m=2");
        due("19: one for both", x.fewest(), 4);
    }

    private static void cheapest() {
        NeverInLine x = threeInLine();
        due("20: what", x.cheapest(2), BAD);
        due("20: what below", x.cheapest(-1), BAD);
        due("20: lawful", x.cheapest(0) + x.cheapest(1), 0);
        x.road(p(0, 0), p(0, 29));
        due("20: bits", x.cheapest(0), 3);
        due("20: price", x.cheapest(1), 3);
        law(x, "n=1");
        x.mend(1, 1, 50);
        due("20: the cheaper one", x.cheapest(0), 4);
        due("20: its price", x.cheapest(1), 4);
        law(x, "m=2");
        due("20: two that cost as much", x.mend(0, 1, 2), 1);
        x.mend(1, 1, 2);
        due("20: the least bits of like ones", x.cheapest(0), 3);
        due("20: price 4", x.cheapest(1), 4);
        x.mend(2, 1, 3);
        due("20: cheaper alone", x.cheapest(0), 4);
    }

    private static void moved() {
        NeverInLine x = threeInLine();
        x.road(p(0, 0), p(0, 29));
        due("21: as it is", x.moved(1, 909), 3);
        due("21: out of line: each pair still is seen from the road", x.moved(1, 910), 3);
        due("21: onto another", x.moved(0, 1409), NOT);
        due("21: off the plain", x.moved(0, 309), NOT);
        due("21: off the plain, too", x.moved(0, 903), NOT);
        due("21: to the edge", x.moved(0, 409) >= 0 ? 1 : 0, 1);
        due("21: at the road's point both lie in line for none", x.moved(0, 409), 1);
        NeverInLine y = new NeverInLine();
        y.tower(p(9, 9), 0);
        due("21: by -9, -9", y.moved(0, 0), 0);
        due("21: by 9, 9", y.moved(0, 1818), 0);
        due("21: by 9, -9", y.moved(0, 1800), 0);
        due("21: by -9, 10", y.moved(0, 19), BAD);
        due("21: by 10, -9", y.moved(0, 1900), BAD);
        y.tower(p(29, 29), 0);
        due("21: beyond the last row", y.moved(1, 910), NOT);
        due("21: beyond the last column", y.moved(1, 1009), NOT);
        due("21: xy", x.moved(0, 1919), BAD);
        due("21: xy y", x.moved(0, 919), BAD);
        due("21: xy below", x.moved(0, -1), BAD);
        due("21: tower", x.moved(3, 909), BAD);
        due("21: it stands as it stood", x.of(0, 0), p(5, 5));
    }

    private static void bent() {
        NeverInLine x = threeInLine();
        due("22: no road", x.bent(0, 0), BAD);
        x.road(p(0, 5), p(1, 5));
        due("22: no stretch", x.bent(1, 0), BAD);
        due("22: what", x.bent(0, 2), BAD);
        due("22: below", x.bent(-1, 0), BAD);
        // The ends stay in line: (0, 5) is on the first part, (1, 5) on the second one, each with three pairs.
        due("22: the first point", x.bent(0, 0), 0);
        due("22: guilts", x.bent(0, 1), 6);
        NeverInLine y = new NeverInLine();
        y.tower(0, 0);
        y.tower(3, 0);
        y.road(p(0, 10), p(10, 10));
        due("22: no tower, no end", y.bent(0, 0), 1);
        due("22: none in line", y.bent(0, 1), 0);
        for (int i = 0; i < 4; i++) {
            y.corner(0, 400 + i);
        }
        NeverInLine ends = new NeverInLine();
        ends.road(0, 1);
        ends.road(899, 1);
        due("22: neither end of it", ends.bent(0, 0), 2);
        due("22: no end of it, but a corner of another", ends.bent(10, 0), 0);
        due("22: six corners", y.bent(0, 0), STATE);
        due("22: bad ahead", y.bent(5, 0), BAD);
        due("22: bad what ahead", y.bent(0, -1), BAD);
    }

    private static void newly() {
        NeverInLine x = threeInLine();
        due("23: point", x.newly(900, 0), BAD);
        due("23: point b", x.newly(0, -1), BAD);
        due("23: one", x.newly(7, 7), 0);
        due("23: a step", x.newly(7, 8), 1);
        due("23: to the first point", x.newly(1, 0), 1);
        due("23: to it from below", x.newly(30, 0), 1);
        due("23: by the edges", x.newly(p(29, 0), p(29, 4)), 4);
        due("23: along the last row", x.newly(870, 899), 29);
        due("23: rows do not join", x.newly(29, 30), 30);
        due("23: an end at a tower", x.newly(p(5, 5), 0), NOT);
        due("23: an end at a tower, one", x.newly(p(5, 5), p(5, 5)), NOT);
        due("23: an end in line", x.newly(0, p(0, 5)), NOT);
        due("23: no way through row 5", x.newly(0, 899), NOT);
        due("23: round", x.newly(p(7, 4), p(7, 3)), 1);
        law(x, "n=0&m=1");
        // In row 5 only 6 .. 9 and the towers' own points see 0 and 1 not in line; 6 .. 9 may be trodden.
        due("23: through the gap", x.newly(p(0, 4), p(0, 6)), 14);
        law(x, "k=3");
        due("23: k is 4", x.newly(p(0, 4), p(0, 6)), 2);
        law(x, "k=4");
        due("23: k is 4, guilty", x.newly(p(0, 4), p(0, 5)), NOT);
    }

    private static void game() {
        NeverInLine x = new NeverInLine();
        due("24: side 1", x.game(0, 19, 0), BAD);
        due("24: side 4", x.game(0, 40, 0), BAD);
        due("24: point", x.game(900, 20, 0), BAD);
        due("24: what", x.game(0, 20, 2), BAD);
        due("24: beyond x", x.game(28, 30, 0), BAD);
        due("24: beyond y", x.game(870, 20, 0), BAD);
        due("24: the last square", x.game(p(27, 27), 30, 0), 1);
        due("24: four points", x.game(0, 20, 0), 0);
        due("24: none wins", x.game(0, 20, 1), NOT);
        due("24: nine points", x.game(0, 39, 1), 0);
        x.tower(0, 0);
        due("24: three points", x.game(0, 20, 1), 1);
        due("24: eight points", x.game(0, 30, 0), 0);
        x.road(1, 2);
        due("24: a corner", x.game(0, 20, 0), 0);
        NeverInLine full = new NeverInLine();
        for (int i = 0; i < 7; i++) {
            full.tower(500 + i, 0);
        }
        due("24: three more towers at most", full.game(0, 20, 0), 1);
        full.tower(600, 0);
        due("24: two more at most", full.game(0, 30, 0), 0);
        full.tower(601, 0);
        due("24: one more", full.game(0, 30, 1), 0);
        full.tower(602, 0);
        due("24: with ten nobody", full.game(0, 30, 0), 0);
        NeverInLine road = new NeverInLine();
        road.road(p(0, 0), p(0, 29));
        // In the square from (2, 10) on all pairs but those in one column are in line from the road.
        due("24: after the first only its column is left", road.game(p(2, 10), 20, 0), 0);
        due("24: in a square of three a column has three", road.game(p(2, 10), 30, 1), p(2, 10));
        law(road, "n=9|m=9");
        due("24: no number is 9: all nine points", road.game(p(2, 10), 30, 1), p(2, 10));
        due("24: no number is 9: all four points", road.game(p(2, 10), 20, 0), 0);
        law(road, "n=10&m=10");
        due("24: both numbers are 10", road.game(p(2, 10), 20, 0), 0);
        road.tower(p(1, 10), 0);
        // Tower 0 clashes with what is in its row, and with all whose line through it meets the road; all of these do.
        law(road, "n=0&m=10");
        due("24: none is free", road.game(p(2, 10), 20, 1), NOT);
        law(road, "n=0&m=1");
        due("24: the number is not 1", road.game(p(2, 10), 20, 0), 0);
        due("24: the three left of the square with the tower", road.game(p(1, 10), 20, 1), p(2, 10));
        due("24: in thought", road.count(0), 1);
    }

    private static void sight() {
        NeverInLine x = new NeverInLine();
        due("25: point", x.sight(900, 0), BAD);
        due("25: bits", x.sight(0, 1024), BAD);
        due("25: bits below", x.sight(0, -1), BAD);
        for (int i = 0; i < 10; i++) {
            due("25: sight", x.sight(5, 1023), i);
        }
        due("25: full", x.sight(0, 0), FULL);
        due("25: bad ahead", x.sight(0, 1024), BAD);
    }

    private static void fits() {
        NeverInLine x = threeInLine();
        due("26: tower", x.fits(3, 0), BAD);
        due("26: what", x.fits(0, 2), BAD);
        due("26: no sights: everywhere but at the others", x.fits(0, 0), 898);
        due("26: the first", x.fits(0, 1), 0);
        x.sight(p(0, 5), 2);
        // Tower 0 is not seen from (0, 5), and 1 hides 2: it is there, or behind 1 in row 5 (not at 2's point).
        due("26: there or behind", x.fits(0, 0), 1 + 18);
        due("26: first", x.fits(0, 1), p(0, 5));
        x.sight(p(29, 5), 5);
        due("26: from the right, too, 2 hides what is in its row", x.fits(0, 0), 0);
        x.sight(0, 0);
        due("26: nowhere", x.fits(0, 0), 0);
        due("26: none", x.fits(0, 1), NOT);
        due("26: it stands as it stood", x.of(0, 0), p(5, 5));
    }

    private static void undoRedo() {
        NeverInLine x = new NeverInLine();
        due("27: none", x.undo(), STATE);
        due("28: none", x.redo(), STATE);
        x.tower(0, 0);
        due("27: towers are no changes", x.undo(), STATE);
        x.mend(0, 0, 1);
        x.mend(0, 1, 2);
        x.mend(0, 2, 1);
        x.mend(0, 2, 1);
        due("27: two still", x.undo(), 2);
        due("27: old", x.of(0, 3), 0);
        due("27: one still", x.undo(), 1);
        due("27: price", x.of(0, 2), 0);
        due("28: one still", x.redo(), 1);
        due("28: price", x.of(0, 2), 2);
        x.mend(0, 1, 2);
        due("28: the same is no change", x.redo(), 0);
        due("28: no more", x.redo(), STATE);
        x.undo();
        x.mend(0, 0, 5);
        due("28: another came behind", x.redo(), STATE);
        due("27: the latest first", x.undo(), 2);
        due("27: height", x.of(0, 1), 1);
        NeverInLine y = new NeverInLine();
        y.tower(0, 0);
        for (int i = 1; i <= 45; i++) {
            y.mend(0, 1, i);
        }
        due("27: forty are kept", y.count(5), 40);
        for (int i = 39; i >= 0; i--) {
            due("27: back", y.undo(), i);
        }
        due("27: no more", y.undo(), STATE);
        due("27: the first five stay", y.of(0, 2), 5);
        for (int i = 39; i >= 0; i--) {
            due("28: forth", y.redo(), i);
        }
        due("28: all", y.of(0, 2), 45);
        due("28: none left", y.redo(), STATE);
        NeverInLine z = threeInLine();
        z.road(p(0, 0), p(0, 29));
        due("27: three", z.guilts(-1), 3);
        z.mend(2, 0, 9);
        due("27: one", z.guilts(-1), 1);
        z.undo();
        due("27: three again", z.guilts(-1), 3);
        z.redo();
        due("28: one again", z.guilts(-1), 1);
    }

    private static void body() {
        NeverInLine x = new NeverInLine();
        due("29: kind", x.body(8), BAD);
        due("29: kind below", x.body(-1), BAD);
        for (int i = 0; i < 50; i++) {
            due("29: body", x.body(i % 8), i);
        }
        due("29: full", x.body(0), FULL);
        due("29: bad ahead", x.body(8), BAD);
    }

    private static void act() {
        NeverInLine x = new NeverInLine();
        for (int kind = 0; kind < 8; kind++) {
            x.body(kind);
        }
        // Rows by kinds (n is the kind here), x = 10: hides, stands, lines, tells.
        int[][] rows = {
            {10, 20, 10, 20 - 1},
            {14, 28, 11, 28 - 0},
            {12, -24, 8, -24 - 3},
            {13, -28, 27, -28 - 6},
            // MOVED, n = 4: hides(2) is 9; lines(1) is 5 - 9.
            {17, 34, 14 - 9, 34 + 4},
            // OLD, n = 5: stands(10) is -(11 + 5) * 2; lines(1) is (1 ^ 5) * 3.
            {15, -32, 45, -44 ^ 5},
            {32, 64, 12, 64 - 7},
            // MIRROR, n = 7: hides(2) is 12; lines(2) is 5 - 12; lines(1) is 6 - 12.
            {20, 40 - 7, 13 - 12, 33 + 6 - 1},
        };
        for (int kind = 0; kind < 8; kind++) {
            for (int act = 0; act < 4; act++) {
                due("30: kind " + kind + " act " + act, x.act(kind, act, 10), rows[kind][act]);
            }
        }
        due("30: wraps", x.act(0, 1, MAX), -2);
        due("30: wraps, too", x.act(3, 1, MAX), -((MIN + 3) * 2));
        due("30: no body", x.act(8, 0, 1), 0);
        due("30: no trace then", x.count(7), 0);
        x.act(0, 0, 1);
        due("30: a trace", x.count(7), 1);
        due("30: no act", x.act(0, 4, 1), 0);
        due("30: no trace then, too", x.trace(0), BAD);
        due("30: below", x.act(-1, 0, 1) + x.act(0, -1, 1), 0);
    }

    private static void trace() {
        NeverInLine x = new NeverInLine();
        for (int kind = 0; kind < 8; kind++) {
            x.body(kind);
        }
        due("31: none yet", x.trace(0), BAD);
        int[][] tells = {
            {2, 10, 1, 11},
            {2, 10, 20, 1, 11},
            {2, 30, 10, 1, 11},
            {2, 41, 30, 10, 1, 40, 11},
            {2, 10, 20, 1, 50, 11, 20, 1},
            {60, 2, 41, 30, 10, 1, 40, 11},
            {2, 10, 70, 1, 11},
            {81, 2, 80, 10, 20, 1, 50, 11, 20, 1, 50, 11, 20, 1},
        };
        for (int kind = 0; kind < 8; kind++) {
            x.act(kind, 3, 5);
            due("31: how many", x.count(7), tells[kind].length);
            for (int i = 0; i < tells[kind].length; i++) {
                due("31: kind " + kind + " place " + i, x.trace(i), tells[kind][i]);
            }
            due("31: beyond", x.trace(tells[kind].length), BAD);
        }
        due("31: below", x.trace(-1), BAD);
    }

    private static void keep() {
        NeverInLine x = new NeverInLine();
        due("32: no body yet", x.keep(0, 0), BAD);
        due("32: nothing", x.keep(0, -1), 1);
        x.body(3);
        due("32: a body", x.keep(5, 0), 1);
        due("32: shelf", x.keep(6, 0), BAD);
        due("32: shelf below", x.keep(-1, -1), BAD);
        due("32: body -2", x.keep(5, -2), BAD);
        due("32: body 1", x.keep(5, 1), BAD);
        due("32: still there", x.taken(5, 3), 3);
        due("32: away", x.keep(5, -1), 1);
        due("32: nothing there", x.taken(5, 3), -11);
        x.row(5, 0, 1);
        x.keep(5, -1);
        due("32: the row is gone", x.put(5, 0, 1), -11);
    }

    private static void row() {
        NeverInLine x = new NeverInLine();
        due("33: shelf", x.row(6, 0, 1), BAD);
        due("33: sort", x.row(0, 5, 1), BAD);
        due("33: sort below", x.row(0, -1, 1), BAD);
        due("33: too long", x.row(0, 0, 61), BAD);
        due("33: bad ahead of -14", x.row(0, 5, -1), BAD);
        due("33: bad shelf ahead of -14", x.row(-1, 0, -1), BAD);
        due("33: below 0", x.row(0, 0, -1), -14);
        due("33: nothing came", x.put(0, 0, 1), -11);
        due("33: sixty", x.row(0, 3, 60), 1);
        due("33: the last one", x.put(0, 59, 7), 1);
        due("33: none", x.row(1, 0, 0), 1);
        due("33: no place in it", x.put(1, 0, 1), -13);
        due("33: a new one", x.row(0, 3, 60), 1);
        due("33: is 0", x.element(0, 59), 0);
    }

    private static void put() {
        NeverInLine x = new NeverInLine();
        due("34: shelf", x.put(6, 0, 1), BAD);
        due("34: shelf below", x.put(-1, 0, 1), BAD);
        due("34: nothing", x.put(0, 0, 1), -11);
        x.body(0);
        x.keep(0, 0);
        due("34: a body", x.put(0, -1, 1), -12);
        long v = 0x1_8000_8080_8081L;
        long[] kept = {(byte) v, (short) v, (int) v, v, 1};
        for (int sort = 0; sort < 5; sort++) {
            x.row(0, sort, 2);
            due("34: below", x.put(0, -1, 1), -13);
            due("34: beyond", x.put(0, 2, 1), -13);
            due("34: put", x.put(0, 1, v), 1);
            due("34: kept by sort " + sort, x.element(0, 1), kept[sort]);
            due("34: the other", x.element(0, 0), 0);
        }
        due("34: a boolean by its highest bit", x.put(0, 0, Long.MIN_VALUE), 1);
        due("34: true", x.element(0, 0), 1);
        x.put(0, 0, 0);
        due("34: false", x.element(0, 0), 0);
    }

    private static void element() {
        NeverInLine x = new NeverInLine();
        due("35: shelf", x.element(6, 0), Long.MIN_VALUE);
        due("35: shelf below", x.element(-1, 0), Long.MIN_VALUE);
        due("35: nothing", x.element(0, 0), Long.MIN_VALUE);
        x.body(0);
        x.keep(0, 0);
        due("35: a body", x.element(0, 0), Long.MIN_VALUE);
        x.row(0, 3, 3);
        due("35: below", x.element(0, -1), Long.MIN_VALUE);
        due("35: beyond", x.element(0, 3), Long.MIN_VALUE);
        due("35: far", x.element(0, MAX), Long.MIN_VALUE);
        due("35: 0", x.element(0, 2), 0);
        x.put(0, 2, Long.MAX_VALUE);
        due("35: a long", x.element(0, 2), Long.MAX_VALUE);
    }

    private static void shift() {
        NeverInLine x = new NeverInLine();
        due("36: shelf", x.shift(6, 0, 0, 0, 0), BAD);
        due("36: other", x.shift(0, 0, -1, 0, 0), BAD);
        due("36: nothing", x.shift(0, 0, 1, 0, 0), -11);
        x.row(0, 2, 6);
        due("36: nothing in the other", x.shift(0, 0, 1, 0, 0), -11);
        x.body(0);
        x.keep(2, 0);
        due("36: nothing ahead of -12", x.shift(2, 0, 1, 0, 0), -11);
        due("36: a body", x.shift(2, 0, 0, 0, 0), -12);
        due("36: a body as the other", x.shift(0, 0, 2, 0, 0), -12);
        due("36: bodies", x.shift(2, 0, 2, 0, 0), -12);
        x.row(1, 1, 6);
        due("36: unlike sorts", x.shift(0, -1, 1, 0, 0), -12);
        x.row(1, 2, 4);
        for (int i = 0; i < 6; i++) {
            x.put(0, i, 10 + i);
        }
        int[][] wrong = {{-1, 0, 0}, {0, -1, 0}, {0, 0, -1}, {7, 0, 0}, {0, 5, 0}, {3, 0, 4}, {0, 1, 4}, {0, 0, 5}, {MAX, 0, 1}, {1, 1, MAX}, {MAX, MAX, MAX}};
        for (int[] w : wrong) {
            due("36: places " + w[0] + " " + w[1] + " " + w[2], x.shift(0, w[0], 1, w[1], w[2]), -13);
        }
        due("36: none, at the ends", x.shift(0, 6, 1, 4, 0), 0);
        due("36: three", x.shift(0, 2, 1, 1, 3), 3);
        due("36: they came", x.element(1, 0) * 1000000 + x.element(1, 1) * 10000 + x.element(1, 2) * 100 + x.element(1, 3), 121314);
        due("36: the same row, forth", x.shift(0, 0, 0, 1, 5), 5);
        due("36: as they were", x.element(0, 0) + 100 * x.element(0, 1) + 10000 * x.element(0, 5), 10 + 1000 + 140000);
        due("36: the same row, back", x.shift(0, 2, 0, 0, 4), 4);
        due("36: as they were, too", x.element(0, 0) + 100 * x.element(0, 3), 11 + 1400);
    }

    private static void taken() {
        NeverInLine x = new NeverInLine();
        due("37: shelf", x.taken(6, 0), BAD);
        due("37: kind", x.taken(0, 8), BAD);
        due("37: kind below", x.taken(0, -1), BAD);
        due("37: nothing", x.taken(0, 0), -11);
        x.row(0, 0, 1);
        due("37: a row", x.taken(0, 0), -12);
        String[] under = {"0", "01", "02", "023", "014", "0235", "06", "0147"};
        for (int kind = 0; kind < 8; kind++) {
            x.keep(0, x.body(kind));
            for (int k = 0; k < 8; k++) {
                due("37: " + kind + " as " + k, x.taken(0, k), under[kind].indexOf('0' + k) >= 0 ? kind : -12);
            }
        }
    }

    private static void count() {
        NeverInLine x = threeInLine();
        x.road(0, 1);
        x.road(0, 2);
        x.forest(0, 1);
        x.sight(0, 0);
        x.sight(0, 0);
        x.feed('a');
        x.mend(0, 0, 9);
        x.body(7);
        x.body(0);
        x.act(0, 3, 0);
        int[] want = {3, 2, 1, 2, 1, 1, 2, 14, BAD};
        for (int what = 0; what < 9; what++) {
            due("38: " + what, x.count(what), want[what]);
        }
        due("38: below", x.count(-1), BAD);
    }
}

/** Promises 7 and 8: the tape, each byte that a text goes on with, and the edges of what a text says. */
final class LawEdgeTest extends Edges {
    private static final String DIGITS = "0123456789", NAMES = "abokmn", AHEAD = "!-(";
    private static final String COMPARING = "<=>", OTHER_SIGNS = "|&+-*/%", ENDS = "?;";
    private static final String SMALLEST = "(2*1024*1024*1024)", GREATEST = "(2*1024*1024*1024-1)";

    private LawEdgeTest() { }

    public static void main(String[] args) {
        tapeRefused();
        tapeFull();
        tapeEmptyThen();
        bytesThatGoOn();
        endsTooEarly();
        longTexts();
        faultKeepsTheLaw();
        lines();
        counts();
        wraps();
        divisions();
        numbers();
        signs();
        names();
        CHECK.end();
    }

    private static NeverInLine fed(String text) {
        NeverInLine x = new NeverInLine();
        States.feedAll(x, text);
        return x;
    }

    // ---- promise 7

    private static void tapeRefused() {
        for (int letter : new int[] {-1, 256, -256, 353, MIN, MAX}) {
            TWINS.refused("7: byte " + letter + " on nothing", States::empty, x -> x.feed(letter), BAD);
            TWINS.refused("7: byte " + letter, States::rich, x -> x.feed(letter), BAD);
            TWINS.refused("7: BAD is ahead of FULL, byte " + letter, States::full, x -> x.feed(letter), BAD);
        }
        for (int letter : new int[] {0, 97, 255}) {
            TWINS.refused("7: full, byte " + letter, States::full, x -> x.feed(letter), FULL);
        }
    }

    private static void tapeFull() {
        NeverInLine x = new NeverInLine();
        for (int i = 1; i <= 120; i++) {
            due("7: how many it has", x.feed(i == 1 ? 0 : i == 120 ? 255 : 'a'), i);
        }
        due("7: the 121st", x.feed('a'), FULL);
        due("7: 120", x.count(4), 120);
    }

    private static void tapeEmptyThen() {
        NeverInLine x = fed("a".repeat(120));
        due("8: a fault", x.law(), -101);
        due("8: the tape is empty then", x.count(4), 0);
        due("7: there is room again", x.feed('1'), 1);
        due("8: a text", x.law(), 1);
        due("8: the tape is empty then, too", x.count(4), 0);
        due("7: the first again", x.feed('1'), 1);
        due("8: nothing of the tapes ahead is on it", fed("1").law(), 1);
        due("8: the length of an empty tape", fed("").law(), -100);
    }

    // ---- promise 8: the fault

    /** Each of the 256 bytes behind a text's beginning: it completes a TEXT, goes on to one, or is the fault. */
    private static void bytesBehind(String begun, String completing, String goingOn) {
        for (int letter = 0; letter < 256; letter++) {
            NeverInLine x = fed(begun);
            x.feed(letter);
            int want = completing.indexOf(letter) >= 0 ? 1 : goingOn.indexOf(letter) >= 0 ? -101 - begun.length() : -100 - begun.length();
            due("8: '" + begun + "' and byte " + letter, x.law(), want);
            NeverInLine y = fed(begun);
            y.feed(letter);
            y.feed(0);
            int behind = completing.indexOf(letter) >= 0 || goingOn.indexOf(letter) >= 0 ? 1 : 0;
            due("8: '" + begun + "', byte " + letter + " and byte 0", y.law(), -100 - begun.length() - behind);
        }
    }

    private static void bytesThatGoOn() {
        String operand = DIGITS + NAMES;
        String signs = COMPARING + OTHER_SIGNS;
        for (String begun : new String[] {"", "a?", "a;", "a+", "a<", "0|", "a?b;", "!", "-", "a--", "!!!!!", "!!!!!!a*", "((((((a))))))-"}) {
            bytesBehind(begun, operand, AHEAD);
        }
        for (String begun : new String[] {"(", "a*(", "(a+", "(!!!!!a*", "(((((", "a;("}) {
            bytesBehind(begun, "", operand + AHEAD);
        }
        for (String begun : new String[] {"a", "(a)", "1234", "0000", "!a", "a?b;o", "(a<b)", "a<b|o", "a<b&o", "!!!!!!a", "((((((a))))))"}) {
            bytesBehind(begun, "", signs + ENDS);
        }
        for (String begun : new String[] {"1", "12", "123", "000", "a+1", "-1"}) {
            bytesBehind(begun, DIGITS, signs + ENDS);
        }
        for (String begun : new String[] {"a<b", "a=b", "a>b", "a<b+o", "a<(b<o)", "a+b<1234"}) {
            bytesBehind(begun, "", OTHER_SIGNS + ENDS);
        }
        bytesBehind("a<1", DIGITS, OTHER_SIGNS + ENDS);
        for (String begun : new String[] {"a?b", "a?(b)", "a;b?o", "a<b?o"}) {
            bytesBehind(begun, "", signs + ";");
        }
        bytesBehind("a?b<o", "", OTHER_SIGNS + ";");
        for (String begun : new String[] {"(a", "((a)", "(a<b|o", "!(a"}) {
            bytesBehind(begun, ")", signs);
        }
        bytesBehind("(a<b", ")", OTHER_SIGNS);
        bytesBehind("(1", ")", DIGITS + signs);
        bytesBehind("((a", "", ")" + signs);
        for (String begun : new String[] {"!!!!!!", "------", "!-!-!-", "a*!!!!!!", "a?!!!!!!", "a;------"}) {
            bytesBehind(begun, operand, "");
        }
        for (String begun : new String[] {"((((((", "!(-!(-", "(!!!!!a*!!!!!", "!!!!!(", "(-----"}) {
            bytesBehind(begun, "", operand);
        }
    }

    private static void endsTooEarly() {
        for (String text : new String[] {"", "a+", "a?", "a;", "(", "(a", "!", "-", "a<b;", "a?b;", "((a)", "a&-"}) {
            due("8: '" + text + "' ends too early", fed(text).law(), -100 - text.length());
        }
        due("8: the first of two faults", fed("a$b$").law(), -101);
        due("8: a fault ahead of an early end", fed("a$+").law(), -101);
        due("8: the last byte of 120", fed("a+".repeat(59) + "a)").law(), -219);
        due("8: 120 bytes that end too early", fed("a+".repeat(60)).law(), -220);
        due("8: 119 bytes that end too early", fed("a+".repeat(59) + "(").law(), -219);
    }

    private static void longTexts() {
        due("8: 120 bytes: a sum", fed("-a" + "+a".repeat(59)).law(), 1);
        due("8: 119 bytes: lines", fed("a;".repeat(59) + "a").law(), 1);
        due("8: 120 bytes: lines with first ones", fed("a?b;".repeat(29) + "-a?b").law(), 1);
        due("8: 120 bytes: brackets", fed("(a)*".repeat(29) + "(aa)").law(), -218);
        due("8: 120 bytes: signs ahead of many", fed("!!!!!!a*".repeat(14) + "!!!!!!!a").law(), -218);
        due("8: 120 bytes: six signs ahead of many", fed("!!!!!!a*".repeat(14) + "!!!!!!10").law(), 1);
        NeverInLine x = two(0, 0);
        due("8: 119 bytes of first ones", States.law(x, "0?1;".repeat(29) + "0?1"), 1);
        due("8: none of thirty lines", x.line(1, 0, 0), 0);
        due("8: 120 bytes of first ones", States.law(x, "0?0;".repeat(29) + "2?13"), 1);
        due("8: the last of thirty lines", x.line(1, 0, 0), 1);
        due("8: the first of thirty lines", States.law(x, "1?0;" + "1?1;".repeat(28) + "1?1"), 1);
        due("8: it counts", x.line(1, 0, 0), 0);
        due("8: a long sum", States.law(x, "1-1" + "+1-1".repeat(29)), 1);
        due("8: it is 0", x.line(1, 0, 0), 0);
    }

    private static void faultKeepsTheLaw() {
        NeverInLine x = two(0, 9);
        for (String fault : new String[] {"", "1+", "x", "1;", "1?", "1)", "1?1?1"}) {
            States.law(x, fault);
            due("8: no text yet behind '" + fault + "'", x.line(1, 0, 0), 0);
        }
        States.law(x, "1");
        for (String fault : new String[] {"", "0+", "x", "0;", "0?", "0)", "0?0?0"}) {
            States.law(x, fault);
            due("8: the law is as it was behind '" + fault + "'", x.line(1, 0, 0), 1);
        }
        TWINS.alike("8: a fault changes nothing but the tape, and it", y -> {
            ruled(y);
            States.law(y, "0+");
        }, LawEdgeTest::ruled);
        States.law(x, "0");
        due("8: another law", x.line(1, 0, 0), 0);
        States.law(x, "b>a+3");
        due("8: and one more", x.line(1, 0, 0), 1);
    }

    private static void ruled(NeverInLine x) {
        States.three(x);
        x.road(150, 151);
        States.law(x, "n=1");
        x.mend(0, 0, 9);
    }

    // ---- promise 8: what a text says

    /** Towers 0 and 1 of these heights at (1, 0) and (2, 0); from (0, 0) tower 0 is the nearer one. */
    private static NeverInLine two(int a, int b) {
        NeverInLine x = new NeverInLine();
        x.tower(1, 1000 * a);
        x.tower(2, 1000 * b);
        return x;
    }

    private static void says(String text, int want) {
        NeverInLine x = two(3, 7);
        due("8: " + text + " is a text", States.law(x, text), 1);
        due("8: " + text, x.line(1, 0, 0), want);
    }

    private static void equal(String text, String value) {
        says("(" + text + ")=(" + value + ")", 1);
    }

    private static void lines() {
        says("1", 1);
        says("0", 0);
        says("1;0", 1);
        says("0;1", 0);
        says("0?1", 0);
        says("1?0", 0);
        says("1?1", 1);
        says("0?1;0?1", 0);
        says("0?1;1", 1);
        says("0?0;1?1", 1);
        says("1?0;1", 0);
        says("1?0;1?1;1", 0);
        says("0?1;0", 0);
        says("0?1;0;1", 0);
        says("-1?1;0", 1);
        says(SMALLEST + "?1;0", 1);
        says("0?1;0?1;1?1;0", 1);
    }

    private static void counts() {
        says("-1", 1);
        says("2", 1);
        says("9999", 1);
        says(SMALLEST, 1);
        says(GREATEST, 1);
        says("-0", 0);
        says("0-0", 0);
        says("1-1", 0);
        NeverInLine x = two(0, 3);
        due("8: without a text, 0 and 3", x.line(1, 0, 0), 1);
        x.mend(1, 0, 4);
        due("8: without a text, 0 and 4", x.line(1, 0, 0), 0);
        x.mend(0, 0, 9);
        x.mend(1, 0, 0);
        due("8: without a text, 9 and 0", x.line(1, 0, 0), 1);
    }

    private static void wraps() {
        says(SMALLEST + "<0", 1);
        says(GREATEST + ">0", 1);
        equal(GREATEST + "+1", SMALLEST);
        equal(SMALLEST + "-1", GREATEST);
        equal("-" + SMALLEST, SMALLEST);
        equal(SMALLEST + "*-1", SMALLEST);
        equal(SMALLEST + "+" + SMALLEST, "0");
        equal(SMALLEST + "*2", "0");
        equal(GREATEST + "*2", "-2");
        equal("!" + SMALLEST, "0");
        equal("-" + GREATEST + "-1", SMALLEST);
        says(SMALLEST + "<" + GREATEST, 1);
        says(GREATEST + "<" + SMALLEST, 0);
        equal("9999*9999*9999", "-(1027*1000*1000+349*1000+969)");
    }

    private static void divisions() {
        equal(SMALLEST + "/-1", SMALLEST);
        equal(SMALLEST + "%-1", "0");
        equal(SMALLEST + "/0", "0");
        equal(SMALLEST + "%0", "0");
        equal("7/0", "0");
        equal("7%0", "0");
        equal("0/0", "0");
        equal("0%0", "0");
        equal("7/2", "3");
        equal("-7/2", "-3");
        equal("7/-2", "-3");
        equal("-7/-2", "3");
        equal("7%2", "1");
        equal("-7%2", "-1");
        equal("7%-2", "1");
        equal("-7%-2", "-1");
        equal("1/2", "0");
        equal("-1/2", "0");
        equal("1/(2-2)+5", "5");
        equal("1|5/0", "1");
        equal("5%0|1", "1");
    }

    private static void numbers() {
        equal("0000", "0");
        equal("0009", "9");
        equal("0010", "10");
        equal("9999+1", "1000*10");
        equal("1000-999", "1");
    }

    private static void signs() {
        String[][] rows = {
            {"0|0", "0"}, {"0|7", "1"}, {"7|0", "1"}, {"7|7", "1"}, {"-1|0", "1"}, {"0&0", "0"}, {"0&7", "0"}, {"7&0", "0"}, {"6&9", "1"}, {"4&-4", "1"},
            {"3<3", "0"}, {"3<4", "1"}, {"4<3", "0"}, {"3>3", "0"}, {"4>3", "1"}, {"3>4", "0"}, {"3=3", "1"}, {"3=4", "0"}, {"-1<0", "1"}, {"0>-1", "1"},
            {"!0", "1"}, {"!1", "0"}, {"!7", "0"}, {"!-1", "0"}, {"!!7", "1"}, {"--7", "7"}, {"-!7", "0"}, {"!-!0", "0"},
            {"1+2*3", "7"}, {"(1+2)*3", "9"}, {"9-3-2", "4"}, {"9-(3-2)", "8"}, {"64/4/2", "8"}, {"9%5%3", "1"}, {"2*7%4", "2"},
            {"7%4*2", "6"}, {"1|1&0", "1"}, {"(1|1)&0", "0"}, {"0&0|1", "1"}, {"1<2&2<1", "0"}, {"1+1=2", "1"}, {"2=1+1", "1"}, {"-2*-3", "6"}, {"!0+!0", "2"},
        };
        for (String[] row : rows) {
            equal(row[0], row[1]);
        }
        says("!!!!!!7=1", 1);
        says("------7=7", 1);
        says("((((((7))))))=7", 1);
        says("!(-!(-7))=1", 1);
    }

    private static void names() {
        NeverInLine x = new NeverInLine();
        for (int t = 0; t < 10; t++) {
            x.tower(29 - 2 * t, 1000 * t + t % 2);
        }
        // From (0, 0) the tower of the greater number is the nearer one.
        Object[][] rows = {
            {"a=9&b=8&n=8&m=9&o=1&k=0", 89, 0, 0}, {"a=9&b=8&n=8&m=9&o=1&k=4", 98, 0, 4}, {"a=9&b=0&n=0&m=9&o=1", 9, 0, 1},
            {"a=9&b=0&n=0&m=9", 90, 0, 2}, {"o=0&n=0&m=8&a=8&b=0", 8, 0, 3}, {"o=2&n=7&m=9&a=9&b=7", 79, 0, 0},
            {"a=1&b=0&n=0&m=1", 1, 0, 0}, {"a=1&b=0&n=0&m=1", 10, 0, 0}, {"a=8&b=9&n=8&m=9", 89, 29, 0},
        };
        for (Object[] row : rows) {
            States.law(x, (String) row[0]);
            due("8: " + row[0] + " of " + row[1], x.line((Integer) row[1], (Integer) row[2], (Integer) row[3]), 1);
            States.law(x, "!(" + row[0] + ")");
            due("8: not " + row[0] + " of " + row[1], x.line((Integer) row[1], (Integer) row[2], (Integer) row[3]), 0);
        }
    }
}

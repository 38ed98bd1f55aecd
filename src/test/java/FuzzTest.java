import java.util.Random;

/** Calls with wild arguments in any state: none throws, and what only asks or is refused changes nothing. */
final class FuzzTest {
    private static final int[] EDGES = {
        Integer.MIN_VALUE, Integer.MIN_VALUE + 1, -1000, -15, -2, -1, 0, 1, 2, 3, 4, 5, 6, 7, 8, 9, 10, 19, 20, 29, 30, 39, 40, 59, 60, 61,
        90, 98, 99, 100, 119, 120, 255, 256, 870, 899, 900, 909, 1023, 1024, 1818, 9991, 9999, 10000, Integer.MAX_VALUE - 1, Integer.MAX_VALUE};
    private final Random random;
    private final NeverInLine x = new NeverInLine();

    private FuzzTest(long seed) {
        random = new Random(seed);
    }

    public static void main(String[] args) {
        Check check = new Check("fuzz");
        for (int seed = 0; seed < 120; seed++) {
            new FuzzTest(seed).play(seed, check);
        }
        check.end();
    }

    private int any() {
        int luck = random.nextInt(10);
        return luck == 0 ? random.nextInt() : luck < 4 ? random.nextInt(900) : luck < 7 ? random.nextInt(12) : EDGES[random.nextInt(EDGES.length)];
    }

    private int small() {
        return random.nextInt(4) == 0 ? any() : random.nextInt(6);
    }

    private void play(int seed, Check check) {
        for (int call = 0; call < 400; call++) {
            int which = random.nextInt(38);
            String before = call % 7 == 0 ? state() : null;
            long got = call(which);
            boolean refused = got < 0 && which != 29 && which != 7;
            if (before != null && (refused || which >= 9 && which <= 23 || which == 25)) {
                check.holds("seed " + seed + " call " + call + " of " + which + ": nothing changed", before.equals(state()));
            } else {
                check.holds("seed " + seed, true);
            }
        }
    }

    private long call(int which) {
        return which < 14 ? plainCall(which) : which < 25 ? askingCall(which) : shelfCall(which);
    }

    private long plainCall(int which) {
        return switch (which) {
            case 0 -> x.tower(any(), any() * 10);
            case 1 -> x.towers(small(), any(), small());
            case 2 -> x.road(any(), any());
            case 3 -> x.corner(small(), any());
            case 4 -> x.forest(any(), any());
            case 5 -> x.feed("|&<=>+-*/%!()?;0123456789abokmn".charAt(random.nextInt(31)));
            case 6 -> x.feed(any());
            case 7 -> x.law();
            case 8 -> x.mend(small(), small(), any());
            case 9 -> x.of(small(), any());
            case 10 -> x.line(any(), any(), small());
            case 11 -> x.guilty(any(), any(), small());
            case 12 -> x.guilts(small() - 1);
            default -> x.which(small());
        };
    }

    private long askingCall(int which) {
        return switch (which) {
            case 14 -> x.led(small());
            case 15 -> x.seen(any());
            case 16 -> x.free(any(), small(), small());
            case 17 -> x.years(small(), small());
            case 18 -> x.fewest();
            case 19 -> x.cheapest(small());
            case 20 -> x.moved(small(), any());
            case 21 -> x.bent(any(), small());
            case 22 -> x.newly(any(), any());
            case 23 -> x.game(any(), random.nextBoolean() ? 20 + random.nextInt(20) : any(), small());
            default -> x.sight(any(), any());
        };
    }

    private long shelfCall(int which) {
        return switch (which) {
            case 25 -> x.fits(small(), small());
            case 26 -> x.undo();
            case 27 -> x.redo();
            case 28 -> x.body(small());
            case 29 -> x.act(small(), small(), any());
            case 30 -> x.trace(any());
            case 31 -> x.keep(small(), any() - 1);
            case 32 -> x.row(small(), small(), any());
            case 33 -> x.put(small(), any(), random.nextLong());
            case 34 -> x.element(small(), any()) == Long.MIN_VALUE ? -1 : 0;
            case 35 -> x.shift(small(), any(), small(), any(), any());
            case 36 -> x.taken(small(), small());
            default -> x.count(small());
        };
    }

    /** All that can be asked for, but for what undoing would tell. */
    private String state() {
        StringBuilder all = new StringBuilder();
        for (int i = -1; i < 11; i++) {
            all.append(x.count(i)).append(' ').append(x.led(i)).append(' ').append(x.guilts(i)).append(' ').append(x.which(i)).append(' ');
            for (int what = 0; what < 26; what++) {
                all.append(x.of(i, what)).append(' ');
            }
        }
        for (int i = -1; i < 60; i++) {
            all.append(x.trace(i)).append(' ').append(x.seen(15 * i)).append(' ');
            for (int shelf = 0; shelf < 6; shelf++) {
                all.append(x.element(shelf, i)).append(' ').append(x.taken(shelf, i)).append(' ');
            }
        }
        return all.toString();
    }
}

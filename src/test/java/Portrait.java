import java.util.List;
import java.util.function.Function;
import java.util.function.ToIntFunction;

/**
 * All that can be asked of an object, in sides; each side is taken from an object of its own, since some change what they
 * ask, and since an object answers 512 calls.
 */
final class Portrait {
    static final List<Function<NeverInLine, String>> SIDES = List.of(
        Portrait::numbers, Portrait::eyes, Portrait::tape, Portrait::back, Portrait::forth, Portrait::sights, Portrait::ways,
        Portrait::cells, Portrait::sorts);
    private static final long ALL_SORTS = 0x1_8000_8080_8081L;

    private Portrait() { }

    private static String numbers(NeverInLine x) {
        StringBuilder all = new StringBuilder("counts");
        for (int what = 0; what < 8; what++) {
            tell(all, x.count(what));
        }
        all.append(" trace");
        for (int i = 0; i < 15; i++) {
            tell(all, x.trace(i));
        }
        all.append(" towers");
        for (int t = 0; t < 10; t++) {
            for (int what = 0; what < 4; what++) {
                tell(all, x.of(t, what));
            }
        }
        all.append(" roads");
        for (int r = 0; r < 4; r++) {
            tell(all, x.of(r, 10));
            for (int i = 0; i < 6; i++) {
                tell(all, x.of(r, 20 + i));
            }
        }
        return all.toString();
    }

    private static String eyes(NeverInLine x) {
        StringBuilder all = new StringBuilder("seen");
        for (int point = 0; point < 900; point += 7) {
            tell(all, x.seen(point));
        }
        lines(x, all);
        return all.toString();
    }

    private static void lines(NeverInLine x, StringBuilder all) {
        all.append(" guilts");
        for (int r = 0; r < 4; r++) {
            tell(all, x.guilts(r));
        }
        all.append(" led");
        for (int t = 0; t < 10; t++) {
            tell(all, x.led(t));
        }
        all.append(" line");
        for (int k = 0; k < 5; k++) {
            tell(all, x.line(1, 150, k));
            tell(all, x.line(12, 150, k));
            tell(all, x.line(21, 179, k));
        }
        all.append(" which");
        for (int what = 0; what < 4; what++) {
            tell(all, x.which(what));
        }
        all.append(" go");
        tell(all, x.fewest());
        tell(all, x.cheapest(0));
        tell(all, x.cheapest(1));
    }

    private static String tape(NeverInLine x) {
        StringBuilder all = new StringBuilder("law");
        tell(all, x.law());
        lines(x, all);
        return all.toString();
    }

    private static String back(NeverInLine x) {
        return steps("undo", x, NeverInLine::undo);
    }

    private static String forth(NeverInLine x) {
        return steps("redo", x, NeverInLine::redo);
    }

    /** What the towers with changes are told as after each step, till there is none. */
    private static String steps(String told, NeverInLine x, ToIntFunction<NeverInLine> step) {
        StringBuilder all = new StringBuilder(told);
        int left = 0;
        for (int i = 0; i < 41 && left >= 0; i++) {
            left = step.applyAsInt(x);
            tell(all, left);
            traits(x, all);
        }
        return all.toString();
    }

    private static void traits(NeverInLine x, StringBuilder all) {
        tell(all, x.of(0, 1));
        tell(all, x.of(0, 2));
        tell(all, x.of(1, 3));
    }

    private static String sights(NeverInLine x) {
        StringBuilder all = new StringBuilder("fits");
        for (int t = 0; t < 10; t++) {
            tell(all, x.fits(t, 0));
            tell(all, x.fits(t, 1));
        }
        return all.toString();
    }

    private static String ways(NeverInLine x) {
        StringBuilder all = new StringBuilder("acts");
        for (int body = 0; body < 50; body++) {
            for (int act = 0; act < 4; act++) {
                tell(all, x.act(body, act, 10));
            }
        }
        return all.toString();
    }

    private static String cells(NeverInLine x) {
        StringBuilder all = new StringBuilder("shelves");
        for (int shelf = 0; shelf < 6; shelf++) {
            all.append(" shelf ").append(shelf);
            tell(all, x.taken(shelf, 0));
            long cell = 0;
            for (int i = 0; i <= 60 && cell != Long.MIN_VALUE; i++) {
                cell = x.element(shelf, i);
                tell(all, cell);
            }
        }
        return all.toString();
    }

    private static String sorts(NeverInLine x) {
        StringBuilder all = new StringBuilder("sorts");
        for (int shelf = 0; shelf < 6; shelf++) {
            tell(all, x.put(shelf, 0, ALL_SORTS));
            tell(all, x.element(shelf, 0));
        }
        return all.toString();
    }

    private static void tell(StringBuilder all, long answer) {
        all.append(' ').append(answer);
    }
}

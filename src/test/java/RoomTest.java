import java.lang.reflect.Array;
import java.lang.reflect.Field;
import java.lang.reflect.Modifier;
import java.util.ArrayDeque;
import java.util.ArrayList;
import java.util.Collections;
import java.util.Deque;
import java.util.IdentityHashMap;
import java.util.List;
import java.util.Set;
import java.util.function.Consumer;

/** What one object holds in all: its parts stay the same ones, whatever is called, and all shares of the room are small. */
final class RoomTest {
    private static final int MOST_OBJECTS = 100, MOST_ELEMENTS = 8000;
    private static final Check CHECK = new Check("room");

    private RoomTest() { }

    public static void main(String[] args) throws IllegalAccessException {
        stays("nothing", States::empty);
        stays("some", States::rich);
        stays("all full", States::full);
        CHECK.end();
    }

    private static void stays(String state, Consumer<NeverInLine> making) throws IllegalAccessException {
        NeverInLine x = new NeverInLine();
        Set<Object> before = parts(x);
        int elements = 0;
        for (Object part : before) {
            elements += part.getClass().isArray() ? Array.getLength(part) : fields(part).size();
        }
        CHECK.holds("objects and arrays: " + before.size(), before.size() <= MOST_OBJECTS);
        CHECK.holds("fields and elements: " + elements, elements <= MOST_ELEMENTS);
        making.accept(x);
        for (int i = 0; i < 15; i++) {
            thoughts(x, 61 * i, i % 10);
            changes(x, i);
        }
        Set<Object> after = parts(x);
        CHECK.holds(state + ": the parts stay the same", after.size() == before.size() && after.containsAll(before));
    }

    private static void thoughts(NeverInLine x, int point, int i) {
        x.guilts(-1);
        x.which(0);
        x.led(i);
        x.seen(point);
        x.free(i, 3, 0);
        x.years(i, 0);
        x.fewest();
        x.cheapest(0);
        x.moved(i, 1010);
        x.bent(0, 0);
        x.newly(point, 899);
        x.game(point, 35, 0);
        x.fits(i, 0);
    }

    private static void changes(NeverInLine x, int i) {
        x.tower(31 * i, 1000);
        x.feed("a<b;k=0".charAt(i % 7));
        if (i % 7 == 6) {
            x.law();
        }
        x.mend(0, 0, i % 9);
        x.undo();
        x.redo();
        x.sight(i, i);
        x.body(i % 8);
        x.act(i, 3, i);
        x.row(i % 6, i % 5, 60 - i);
        x.put(i % 6, i, i);
        x.shift(i % 6, 0, i % 6, 1, 5);
        x.keep((i + 3) % 6, i % 2 - 1);
    }

    private static Set<Object> parts(NeverInLine x) throws IllegalAccessException {
        Set<Object> known = Collections.newSetFromMap(new IdentityHashMap<>());
        Deque<Object> work = new ArrayDeque<>(List.of(x));
        while (!work.isEmpty()) {
            Object part = work.remove();
            if (known.add(part)) {
                work.addAll(held(part));
            }
        }
        return known;
    }

    private static List<Object> held(Object part) throws IllegalAccessException {
        List<Object> all = new ArrayList<>();
        if (part instanceof Object[] row) {
            Collections.addAll(all, row);
        } else if (!part.getClass().isArray()) {
            for (Field field : fields(part)) {
                if (!field.getType().isPrimitive()) {
                    all.add(field.get(part));
                }
            }
        }
        all.removeIf(one -> one == null);
        return all;
    }

    private static List<Field> fields(Object part) {
        List<Field> own = new ArrayList<>();
        for (Field field : part.getClass().getDeclaredFields()) {
            if (!Modifier.isStatic(field.getModifiers())) {
                field.setAccessible(true);
                own.add(field);
            }
        }
        return own;
    }
}

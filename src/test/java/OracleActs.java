import java.util.ArrayList;
import java.util.List;

/** The acts by real classes, the shelves by real arrays and casts: the host's own refusals are caught here. */
final class OracleActs {
    static final int BAD = -1, FULL = -3;
    final List<Tower> bodies = new ArrayList<>();
    List<Integer> ran = new ArrayList<>();
    final Object[] shelves = new Object[6];

    interface Hides {
        int n();

        void ran(int body);

        default int hides(int x) {
            ran(1);
            return x + n();
        }
    }

    interface Tells {
        void ran(int body);

        int stands(int x);

        int lines(int x);

        default int tells(int x) {
            ran(2);
            return stands(x) - lines(1);
        }
    }

    static class Tower implements Hides, Tells {
        private final OracleActs home;
        private final int number;
        private final int kind;

        Tower(OracleActs home, int number, int kind) {
            this.home = home;
            this.number = number;
            this.kind = kind;
        }

        public int n() {
            return number;
        }

        public void ran(int body) {
            home.ran.add(body);
        }

        public int stands(int x) {
            ran(10);
            return hides(x) * 2;
        }

        public int lines(int x) {
            ran(11);
            return x ^ n();
        }
    }

    static class Point extends Tower {
        Point(OracleActs home, int number, int kind) {
            super(home, number, kind);
        }

        @Override
        public int hides(int x) {
            ran(20);
            return super.hides(x) + 3;
        }
    }

    static class Broad extends Tower {
        Broad(OracleActs home, int number, int kind) {
            super(home, number, kind);
        }

        @Override
        public int stands(int x) {
            ran(30);
            return -super.stands(x);
        }
    }

    static class High extends Broad {
        High(OracleActs home, int number, int kind) {
            super(home, number, kind);
        }

        @Override
        public int lines(int x) {
            ran(40);
            return super.lines(x) * 3;
        }

        @Override
        public int stands(int x) {
            ran(41);
            return super.stands(x + 1);
        }
    }

    static class Moved extends Point {
        Moved(OracleActs home, int number, int kind) {
            super(home, number, kind);
        }

        @Override
        public int lines(int x) {
            ran(50);
            return super.lines(x) - hides(2);
        }
    }

    static class Old extends High {
        Old(OracleActs home, int number, int kind) {
            super(home, number, kind);
        }

        @Override
        public int tells(int x) {
            ran(60);
            return super.tells(x) ^ 5;
        }
    }

    static class Told extends Tower {
        Told(OracleActs home, int number, int kind) {
            super(home, number, kind);
        }

        @Override
        public int hides(int x) {
            ran(70);
            return super.hides(x) * 2;
        }
    }

    static class Mirror extends Moved {
        Mirror(OracleActs home, int number, int kind) {
            super(home, number, kind);
        }

        @Override
        public int stands(int x) {
            ran(80);
            return super.stands(x) + lines(2);
        }

        @Override
        public int tells(int x) {
            ran(81);
            return super.tells(x) - 1;
        }
    }

    private static final Class<?>[] KINDS = {
        Tower.class, Point.class, Broad.class, High.class, Moved.class, Old.class, Told.class, Mirror.class};

    int body(int kind) {
        if (kind < 0 || kind > 7) {
            return BAD;
        }
        if (bodies.size() == 50) {
            return FULL;
        }
        int n = bodies.size();
        bodies.add(switch (kind) {
            case 0 -> new Tower(this, n, kind);
            case 1 -> new Point(this, n, kind);
            case 2 -> new Broad(this, n, kind);
            case 3 -> new High(this, n, kind);
            case 4 -> new Moved(this, n, kind);
            case 5 -> new Old(this, n, kind);
            case 6 -> new Told(this, n, kind);
            default -> new Mirror(this, n, kind);
        });
        return n;
    }

    int act(int body, int act, int x) {
        ran = new ArrayList<>();
        if (body < 0 || body >= bodies.size()) {
            return 0;
        }
        Tower t = bodies.get(body);
        return switch (act) {
            case 0 -> t.hides(x);
            case 1 -> t.stands(x);
            case 2 -> t.lines(x);
            case 3 -> t.tells(x);
            default -> 0;
        };
    }

    int trace(int i) {
        return i < 0 || i >= 24 || i >= ran.size() ? BAD : ran.get(i);
    }

    private static boolean shelf(int s) {
        return s >= 0 && s <= 5;
    }

    int keep(int shelf, int body) {
        if (!shelf(shelf) || body < -1 || body >= bodies.size()) {
            return BAD;
        }
        shelves[shelf] = body == -1 ? null : bodies.get(body);
        return 1;
    }

    int row(int shelf, int sort, int n) {
        if (!shelf(shelf) || sort < 0 || sort > 4 || n > 60) {
            return BAD;
        }
        try {
            shelves[shelf] = switch (sort) {
                case 0 -> new byte[n];
                case 1 -> new short[n];
                case 2 -> new int[n];
                case 3 -> new long[n];
                default -> new boolean[n];
            };
            return 1;
        } catch (NegativeArraySizeException below) {
            return -14;
        }
    }

    int put(int shelf, int i, long v) {
        if (!shelf(shelf)) {
            return BAD;
        }
        Object o = shelves[shelf];
        if (o == null) {
            return -11;
        }
        try {
            if (o instanceof byte[] b) {
                b[i] = (byte) v;
            } else if (o instanceof short[] s) {
                s[i] = (short) v;
            } else if (o instanceof int[] n) {
                n[i] = (int) v;
            } else if (o instanceof long[] l) {
                l[i] = v;
            } else {
                ((boolean[]) o)[i] = v != 0;
            }
            return 1;
        } catch (ClassCastException other) {
            return -12;
        } catch (ArrayIndexOutOfBoundsException beyond) {
            return -13;
        }
    }

    long element(int shelf, int i) {
        try {
            Object o = shelves[shelf];
            if (o instanceof byte[] b) {
                return b[i];
            } else if (o instanceof short[] s) {
                return s[i];
            } else if (o instanceof int[] n) {
                return n[i];
            } else if (o instanceof long[] l) {
                return l[i];
            }
            return ((boolean[]) o)[i] ? 1 : 0;
        } catch (ClassCastException | NullPointerException | ArrayIndexOutOfBoundsException refused) {
            return Long.MIN_VALUE;
        }
    }

    int shift(int shelf, int i, int other, int j, int n) {
        if (!shelf(shelf) || !shelf(other)) {
            return BAD;
        }
        try {
            System.arraycopy(shelves[shelf], i, shelves[other], j, n);
            return n;
        } catch (NullPointerException nothing) {
            return -11;
        } catch (ArrayStoreException unlike) {
            return -12;
        } catch (IndexOutOfBoundsException beyond) {
            return -13;
        }
    }

    int taken(int shelf, int k) {
        if (!shelf(shelf) || k < 0 || k > 7) {
            return BAD;
        }
        if (shelves[shelf] == null) {
            return -11;
        }
        return KINDS[k].isInstance(shelves[shelf]) ? ((Tower) shelves[shelf]).kind : -12;
    }
}

/** Inputs at the edges, and the ways in which the edge tests fill and ask a house. */
final class Edge {
    static final int LEAST = Integer.MIN_VALUE;
    static final int GREATEST = Integer.MAX_VALUE;

    /** Unlike ints in their order, among them such as a difference wraps around for or a narrower type confuses. */
    static final int[] INTS = {LEAST, LEAST + 1, -65536, -1, 0, 1, 65536, GREATEST - 1, GREATEST};

    private Edge() {
    }

    /** Numbers that are none of 0 .. bound - 1: close by, as a shift by 32 would wrap into it, and the utmost ones. */
    static int[] outside(int bound) {
        return new int[] {-1, bound, bound + 1, bound < 32 ? 32 : bound + 32, 65536, LEAST, GREATEST};
    }

    /** Rows whose column 0 is their number and whose other columns are 0. */
    static void rows(House house, int table, int rows) {
        for (int row = 0; row < rows; row++) {
            house.row(table, row, 0, 0, 0);
        }
    }

    /** Rows with one value in all columns. */
    static void alike(House house, int table, int rows, int value) {
        for (int row = 0; row < rows; row++) {
            house.row(table, value, value, value, value);
        }
    }

    /** Rows with some unlike values in each column. */
    static void spread(House house, int table, int rows, int spread) {
        for (int row = 0; row < rows; row++) {
            int value = row % spread;
            house.row(table, value, value, value, value);
        }
    }

    static void generators(House house, int... tables) {
        for (int table : tables) {
            house.generator(table);
        }
    }

    /** A new query of the tables, the old one cleared. */
    static void query(House house, int... tables) {
        house.clear();
        generators(house, tables);
    }

    static void plan(House house, int... want) {
        for (int place = 0; place < want.length; place++) {
            int at = place;
            Due.is("plan(" + place + ")", () -> house.plan(at), want[place]);
        }
        Due.noSuch("plan(" + want.length + ")", () -> house.plan(want.length));
    }

    static void sizes(House house, int... want) {
        for (int place = 0; place < want.length; place++) {
            int at = place;
            Due.is("size(" + place + ")", () -> house.size(at), want[place]);
        }
        Due.noSuch("size(" + want.length + ")", () -> house.size(want.length));
    }

    static void methods(House house, int... want) {
        for (int place = 0; place < want.length; place++) {
            int at = place;
            Due.is("method(" + place + ")", () -> house.method(at), want[place]);
        }
        Due.noSuch("method(" + want.length + ")", () -> house.method(want.length));
    }

    /** A run with so many ways and looks. */
    static void run(String what, House house, int ways, int looks) {
        Due.is(what + ": run()", house::run, ways);
        Due.is(what + ": looks()", house::looks, looks);
    }

    /** A run with just these ways, each told as a row for each generator. */
    static void ways(String what, House house, int[]... want) {
        Due.is(what + ": run()", house::run, want.length);
        for (int way = 0; way < want.length; way++) {
            for (int generator = 0; generator < want[way].length; generator++) {
                int at = way;
                int of = generator;
                Due.is(what + ": way(" + at + ", " + of + ")", () -> house.way(at, of), want[way][generator]);
            }
        }
        Due.noSuch(what + ": way(" + want.length + ", 0)", () -> house.way(want.length, 0));
    }
}

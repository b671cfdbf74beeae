/** Promises 1 to 3: a new object, table, row. */
public final class TablesTest {
    private static final int[] WRONG_TABLES = {-1, 6, 7, Integer.MIN_VALUE, Integer.MAX_VALUE};
    private static final int[] WRONG_INDEXES = {-1, 16, 17, 32, Integer.MIN_VALUE, Integer.MAX_VALUE};

    public static void main(String[] args) {
        newObject();
        newObjectsAreApart();
        tableEmpties();
        tableSetsIndexes();
        tableRefuses();
        rowsAreNumbered();
        rowRefuses();
        spreads();
        Due.end();
    }

    private static void newObject() {
        House house = new House();
        Due.is("looks of a new object", house::looks, 0);
        Due.noSuch("plan of a new object", () -> house.plan(0));
        Due.noSuch("method of a new object", () -> house.method(0));
        Due.noSuch("size of a new object", () -> house.size(0));
        Due.noSuch("way of a new object", () -> house.way(0, 0));
        Due.illegal("no generator yet", () -> house.number(0, 0, 0));
        Due.is("run of a new object", house::run, 0);
        Due.is("looks after it", house::looks, 0);
        for (int table = 0; table < 6; table++) {
            int of = table;
            Due.is("generator", () -> house.generator(of), table);
            Due.is("a condition", () -> house.number(of, of % 4, 0), table);
        }
        for (int place = 0; place < 6; place++) {
            int at = place;
            Due.is("no rows: size", () -> house.size(at), 0);
            Due.is("no indexes: method", () -> house.method(at), 3);
        }
        for (int table = 0; table < 6; table++) {
            int of = table;
            Due.is("the first row", () -> house.row(of, 0, 0, 0, 0), 0);
        }
    }

    private static void newObjectsAreApart() {
        House one = new House();
        one.row(0, 1, 1, 1, 1);
        one.generator(0);
        one.run();
        House other = new House();
        Due.noSuch("another object's query", () -> other.plan(0));
        Due.is("another object's looks", other::looks, 0);
        Due.is("another object's row", () -> other.row(0, 1, 1, 1, 1), 0);
        Due.is("the first object's next row", () -> one.row(0, 1, 1, 1, 1), 1);
    }

    private static void tableEmpties() {
        House house = new House();
        for (int table = 0; table < 6; table++) {
            house.row(table, table, 0, 0, 0);
            house.row(table, 9, 0, 0, 0);
            house.generator(table);
        }
        house.table(3, 0);
        Due.is("size with an emptied table", () -> house.size(5), 0);
        Due.is("it comes first", () -> house.plan(0), 3);
        Due.is("its rows begin anew", () -> house.row(3, 8, 0, 0, 0), 0);
        Due.is("another table's rows go on", () -> house.row(2, 8, 0, 0, 0), 2);
        Due.is("the query stays", () -> house.size(5), 2 * 2 * 3 * 1 * 2 * 2);
        Due.is("run", house::run, 48);
        house.table(3, 0);
        Due.is("the latest run stays", () -> house.way(47, 5), 1);
        Due.is("a second emptying", () -> house.row(3, 8, 0, 0, 0), 0);
    }

    private static void tableSetsIndexes() {
        for (int bits = 0; bits < 16; bits++) {
            House house = new House();
            house.table(4, 15 - bits);
            house.table(4, bits);
            house.row(4, 1, 1, 1, 1);
            for (int column = 0; column < 4; column++) {
                house.clear();
                house.generator(4);
                house.number(0, column, 1);
                Due.is("bits " + bits + " column " + column, () -> house.method(0), (bits >> column & 1) != 0 ? 1 : 3);
            }
            house.clear();
            house.generator(3);
            house.number(0, 0, 1);
            Due.is("another table has no index", () -> house.method(0), 3);
        }
    }

    private static void tableRefuses() {
        House house = filled();
        String before = State.of(house);
        for (int table : WRONG_TABLES) {
            Due.illegal("table " + table, Due.of(() -> house.table(table, 0)));
        }
        for (int indexes : WRONG_INDEXES) {
            Due.illegal("indexes " + indexes, Due.of(() -> house.table(0, indexes)));
        }
        Due.illegal("both wrong", Due.of(() -> house.table(6, 16)));
        Due.same("a refused table", State.of(house), before);
        Due.is("rows after it", () -> house.row(0, 0, 0, 0, 0), 2);
        Due.is("all columns", Due.of(() -> house.table(5, 15)), 0);
    }

    private static void rowsAreNumbered() {
        House house = new House();
        for (int row = 0; row < 30; row++) {
            int at = row;
            for (int table = 0; table < 6; table++) {
                int of = table;
                Due.is("row", () -> house.row(of, at, of, -at, Integer.MIN_VALUE + at), at);
            }
        }
        house.generator(5);
        house.number(0, 0, 29);
        house.number(0, 1, 5);
        house.number(0, 2, -29);
        house.number(0, 3, Integer.MIN_VALUE + 29);
        Due.is("the last row's columns", house::run, 1);
        Due.is("its number", () -> house.way(0, 0), 29);
    }

    private static void rowRefuses() {
        House house = filled();
        for (int row = 2; row < 30; row++) {
            house.row(0, row, row, row, row);
        }
        String before = State.of(house);
        for (int table : WRONG_TABLES) {
            Due.illegal("row of table " + table, () -> house.row(table, 0, 0, 0, 0));
        }
        Due.unsupported("the 31st row", () -> house.row(0, 99, 99, 99, 99));
        Due.unsupported("again", () -> house.row(0, 99, 99, 99, 99));
        Due.same("refused rows", State.of(house), before);
        Due.is("another table", () -> house.row(1, 0, 0, 0, 0), 2);
        house.table(0, 0);
        Due.is("after emptying", () -> house.row(0, 0, 0, 0, 0), 0);
    }

    /** SPREAD, as size() shows it: of 30 rows divided by it. */
    private static void spreads() {
        int[] values = {0, -1, Integer.MAX_VALUE, Integer.MIN_VALUE, 1, 65536, 256};
        for (int spread = 1; spread <= values.length; spread++) {
            House house = new House();
            for (int row = 0; row < 30; row++) {
                int value = values[row % spread];
                house.row(1, value, 5, value, row);
            }
            house.generator(1);
            house.number(0, 2, 12345);
            Due.is("spread " + spread, () -> house.size(0), (30 + spread - 1) / spread);
            house.number(0, 1, 5);
            Due.is("a spread of one", () -> house.size(0), (30 + spread - 1) / spread);
            house.number(0, 3, 5);
            Due.is("a spread of thirty", () -> house.size(0), 1);
        }
        House house = new House();
        house.row(0, 1, 1, 1, 1);
        house.row(0, 2, 2, 2, 2);
        house.table(0, 0);
        house.row(0, 2, 2, 2, 2);
        house.row(0, 2, 2, 2, 2);
        house.generator(0);
        house.number(0, 0, 2);
        Due.is("spread after emptying", () -> house.size(0), 2);
        house.row(0, 1, 2, 2, 2);
        Due.is("a new value", () -> house.size(0), 2);
        house.row(0, 1, 2, 2, 2);
        house.row(0, 3, 2, 2, 2);
        house.row(0, 3, 2, 2, 2);
        house.row(0, 3, 2, 2, 2);
        Due.is("seven by three", () -> house.size(0), 3);
    }

    private static House filled() {
        House house = new House();
        house.table(0, 1);
        house.row(0, 1, 2, 3, 4);
        house.row(0, 1, 5, 6, 7);
        house.row(1, 1, 1, 1, 1);
        house.row(1, 2, 1, 1, 1);
        house.generator(1);
        house.generator(0);
        house.equal(0, 0, 1, 0);
        house.run();
        return house;
    }
}

/** Promises 1 to 3: a new object, table, row. */
final class TableEdges {
    private TableEdges() {
    }

    static void all() {
        noRows();
        noIndexes();
        noQuery();
        noRun();
        noRowsFromNowOn();
        indexesAsBits();
        noSuchTableOrColumn();
        rowMore();
        rowOfNoTable();
        rowsAreThirty();
    }

    private static void noRows() {
        Due.about("Promise 1", "No rows,");
        // another object's rows are not its own
        House other = new House();
        Edge.alike(other, 0, 30, 1);
        House house = new House();
        for (int table = 0; table <= 5; table++) {
            int of = table;
            Edge.query(house, table);
            Edge.sizes(house, 0);
            Edge.run("table " + table, house, 0, 0);
            Due.is("the first row", () -> house.row(of, Edge.LEAST, Edge.GREATEST, 0, -1), 0);
            Edge.sizes(house, 1);
        }
    }

    private static void noIndexes() {
        Due.about("Promise 1", "no indexes,");
        House other = new House();
        other.table(0, 15);
        for (int table = 0; table <= 5; table++) {
            House house = new House();
            house.row(table, 1, 1, 1, 1);
            for (int column = 0; column <= 3; column++) {
                Edge.query(house, table, table);
                house.number(0, column, 1);
                Edge.methods(house, 3, 3);
                house.equal(0, column, 1, column);
                Edge.methods(house, 3, 2);
            }
        }
    }

    private static void noQuery() {
        Due.about("Promise 1", "no query,");
        House other = new House();
        Edge.generators(other, 0, 0, 0, 0, 0, 0);
        House house = new House();
        Edge.plan(house);
        Edge.methods(house);
        Edge.sizes(house);
        Refused.illegal("equal(0, 0, 0, 0)", House::new, on -> on.equal(0, 0, 0, 0));
        Refused.illegal("number(0, 0, 0)", House::new, on -> on.number(0, 0, 0));
        Refused.illegal("less(0, 0, 0, 0)", House::new, on -> on.less(0, 0, 0, 0));
        Due.is("the first generator", () -> house.generator(0), 0);
        Due.is("the first condition", () -> house.less(0, 0, 0, 0), 0);
    }

    private static void noRun() {
        Due.about("Promise 1", "no run.");
        House other = new House();
        Edge.rows(other, 0, 3);
        other.generator(0);
        Edge.run("another object's run", other, 3, 3);
        House house = new House();
        Due.is("looks()", house::looks, 0);
        Due.noSuch("way(0, 0)", () -> house.way(0, 0));
        for (int number : Edge.outside(1)) {
            Refused.noSuch("way(" + number + ", 0)", House::new, on -> on.way(number, 0));
            Refused.noSuch("way(0, " + number + ")", House::new, on -> on.way(0, number));
        }
        // rows and a query are not yet a run
        house.row(0, 1, 1, 1, 1);
        house.generator(0);
        Edge.plan(house, 0);
        Due.is("looks()", house::looks, 0);
        Due.noSuch("way(0, 0)", () -> house.way(0, 0));
        Edge.ways("the first run", house, new int[] {0});
        Due.is("another object's looks()", other::looks, 3);
    }

    private static void noRowsFromNowOn() {
        Due.about("Promise 2", "A table has no rows from now on,");
        for (int table = 0; table <= 5; table++) {
            int of = table;
            for (int rows : new int[] {0, 1, 29, 30}) {
                House house = new House();
                Edge.rows(house, table, rows);
                Edge.rows(house, (table + 1) % 6, 3);
                Edge.generators(house, table, (table + 1) % 6);
                house.number(0, 0, 0);
                Due.is("run()", house::run, rows == 0 ? 0 : 3);
                int looked = house.looks();
                Due.is("table(" + of + ", 0)", Due.of(() -> house.table(of, 0)), 0);
                Edge.plan(house, 0, 1);
                Edge.sizes(house, 0, 0);
                // neither the run before, nor the query, nor another table changes
                Due.is("the run before: looks()", house::looks, looked);
                Due.same("the run before: way(2, 1)", Due.answerOf(() -> house.way(2, 1)),
                        rows == 0 ? "throws.NoSuchElementException" : "2");
                Due.is("the query: number()", () -> house.number(1, 0, 0), 1);
                Due.is("another table's next row", () -> house.row((of + 1) % 6, 3, 0, 0, 0), 3);
                Edge.run("no rows", house, 0, 0);
                for (int row = 0; row < 30; row++) {
                    int at = row;
                    Due.is("rows from 0 on", () -> house.row(of, 5, 5, 5, 5), at);
                }
                Due.unsupported("30 again", () -> house.row(of, 5, 5, 5, 5));
                // a spread of the new rows alone
                Edge.sizes(house, 1, 30);
            }
        }
    }

    private static void indexesAsBits() {
        Due.about("Promise 2", "and indexes on the columns that are told as bits.");
        for (int table = 0; table <= 5; table++) {
            for (int bits = 0; bits <= 15; bits++) {
                House house = new House();
                int of = table;
                int told = bits;
                house.table(table, 15 - bits);
                Edge.rows(house, table, 2);
                Due.is("table(" + of + ", " + told + ")", Due.of(() -> house.table(of, told)), 0);
                for (int column = 0; column <= 3; column++) {
                    Edge.query(house, table, (table + 1) % 6);
                    house.number(0, column, 1);
                    house.number(1, column, 1);
                    Edge.methods(house, (bits >> column & 1) != 0 ? 1 : 3, 3);
                }
                // rows that come change no index
                Edge.rows(house, table, 2);
                Edge.query(house, table);
                house.number(0, 3, 0);
                Edge.methods(house, bits >= 8 ? 1 : 3);
            }
        }
    }

    private static void noSuchTableOrColumn() {
        Due.about("Promise 2", "IllegalArgumentException if there is no such table or column.");
        for (int table = 0; table <= 5; table++) {
            House house = new House();
            int of = table;
            Due.is("table(" + of + ", 0)", Due.of(() -> house.table(of, 0)), 0);
            Due.is("table(" + of + ", 15)", Due.of(() -> house.table(of, 15)), 0);
        }
        for (int table : Edge.outside(6)) {
            Refused.illegal("table(" + table + ", 0)", Sample::joined, on -> on.table(table, 0));
            Refused.illegal("table(" + table + ", 15)", Sample::full, on -> on.table(table, 15));
            Refused.illegal("table(" + table + ", 16)", Sample::full, on -> on.table(table, 16));
        }
        for (int bits : Edge.outside(16)) {
            Refused.illegal("table(0, " + bits + ")", Sample::joined, on -> on.table(0, bits));
            Refused.illegal("table(3, " + bits + ")", Sample::full, on -> on.table(3, bits));
        }
        // every bit from 4 up to the sign, alone and beside such as are columns
        for (int bit = 4; bit < 32; bit++) {
            int bits = 1 << bit;
            Refused.illegal("table(0, 1 << " + bit + ")", Sample::joined, on -> on.table(0, bits));
            Refused.illegal("table(5, 1 << " + bit + " | 5)", Sample::joined, on -> on.table(5, bits | 5));
        }
    }

    private static void rowMore() {
        Due.about("Promise 3", "A row more: its number.");
        House house = new House();
        for (int row = 0; row < 30; row++) {
            int at = row;
            int value = Edge.INTS[row % Edge.INTS.length];
            Due.is("row(5, ..)", () -> house.row(5, value, at, -value, ~at), at);
        }
        for (int row = 0; row < 30; row++) {
            int value = Edge.INTS[row % Edge.INTS.length];
            Edge.query(house, 5);
            house.number(0, 0, value);
            house.number(0, 1, row);
            house.number(0, 2, -value);
            house.number(0, 3, ~row);
            Edge.ways("row " + row, house, new int[] {row});
        }
        Edge.query(house, 5);
        house.number(0, 0, 12345);
        Edge.sizes(house, 4);
    }

    private static void rowOfNoTable() {
        Due.about("Promise 3", "IllegalArgumentException if there is no such table;");
        for (int table : Edge.outside(6)) {
            Refused.illegal("row(" + table + ", ..) of a new object", House::new, on -> on.row(table, 1, 2, 3, 4));
            Refused.illegal("row(" + table + ", ..)", Sample::joined, on -> on.row(table, 1, 2, 3, 4));
            Refused.illegal("row(" + table + ", utmost ints)", Sample::full,
                    on -> on.row(table, Edge.LEAST, Edge.GREATEST, Edge.LEAST, Edge.GREATEST));
        }
        House house = new House();
        Due.is("row(0, ..)", () -> house.row(0, Edge.LEAST, Edge.LEAST, Edge.LEAST, Edge.LEAST), 0);
        Due.is("row(5, ..)", () -> house.row(5, Edge.GREATEST, Edge.GREATEST, Edge.GREATEST, Edge.GREATEST), 0);
    }

    private static void rowsAreThirty() {
        Due.about("Promise 3", "UnsupportedOperationException if it has 30.");
        for (int table = 0; table <= 5; table++) {
            int of = table;
            House house = rowsIn(of, 29);
            Due.is("the thirtieth", () -> house.row(of, 1, 1, 1, 1), 29);
            Due.unsupported("one more", () -> house.row(of, 1, 1, 1, 1));
            Refused.unsupported("one more", () -> rowsIn(of, 30), on -> on.row(of, 1, 1, 1, 1));
            Refused.unsupported("one more, of utmost ints", () -> rowsIn(of, 30),
                    on -> on.row(of, Edge.LEAST, Edge.GREATEST, Edge.GREATEST, Edge.LEAST));
            for (int other = 0; other <= 5; other++) {
                int at = other;
                if (other != table) {
                    Due.is("a row of table " + at, () -> house.row(at, 1, 1, 1, 1), at == (of + 1) % 6 ? 1 : 0);
                }
            }
            house.table(table, 0);
            Due.is("after table()", () -> house.row(of, 1, 1, 1, 1), 0);
        }
    }

    private static House rowsIn(int table, int rows) {
        House house = new House();
        house.table(table, 5);
        Edge.spread(house, table, rows, 7);
        house.row((table + 1) % 6, 1, 1, 1, 1);
        Edge.generators(house, table, (table + 1) % 6);
        house.equal(0, 2, 1, 2);
        house.run();
        return house;
    }
}

import java.util.ArrayList;
import java.util.List;

/** Term 1: tables, rows, spreads, generators, conditions, ways. */
final class Term1Edges {
    private interface Add {
        int to(House house);
    }

    /** A condition of each kind, of generator 0. */
    private static final List<Add> KINDS = List.of(
            house -> house.equal(0, 0, 0, 0), house -> house.number(0, 3, 0), house -> house.less(0, 1, 0, 2));

    private Term1Edges() {
    }

    static void all() {
        sixTables();
        thirtyRows();
        fourColumns();
        rowsAreNumbered();
        indexes();
        noRowsAtFirst();
        spreads();
        spreadWithoutRows();
        sixGenerators();
        severalOfOneTable();
        twelveConditions();
        equal();
        equalOfTheSame();
        number();
        less();
        noQueryAtFirst();
        allConditionsHold();
        noGenerators();
    }

    private static void sixTables() {
        Due.about("Term 1", "There are six TABLES, 0 .. 5,");
        House house = new House();
        for (int table = 0; table <= 5; table++) {
            int at = table;
            Due.is("table(" + at + ", 0)", Due.of(() -> house.table(at, 0)), 0);
            Edge.rows(house, table, table + 1);
        }
        for (int table = 0; table <= 5; table++) {
            int at = table;
            house.clear();
            Due.is("generator(" + at + ")", () -> house.generator(at), 0);
            Edge.sizes(house, table + 1);
        }
        for (int table : Edge.outside(6)) {
            Refused.illegal("table(" + table + ", 0)", Sample::joined, on -> on.table(table, 0));
            Refused.illegal("row(" + table + ", ..)", Sample::joined, on -> on.row(table, 1, 1, 1, 1));
            Refused.illegal("generator(" + table + ")", Sample::joined, on -> on.generator(table));
        }
    }

    private static void thirtyRows() {
        Due.about("Term 1", "each with up to 30 ROWS");
        for (int table = 0; table <= 5; table++) {
            int of = table;
            House house = thirtyIn(of);
            Edge.sizes(house, 30);
            Edge.run("30 rows", house, 30, 30);
            Due.is("the last one", () -> house.way(29, 0), 29);
            Refused.unsupported("row 30 of table " + of, () -> thirtyIn(of), on -> on.row(of, 1, 1, 1, 1));
        }
    }

    private static House thirtyIn(int table) {
        House house = new House();
        Edge.rows(house, table, 30);
        house.generator(table);
        return house;
    }

    private static void fourColumns() {
        Due.about("Term 1", "of four ints (COLUMNS 0 .. 3)");
        for (int value : Edge.INTS) {
            House house = new House();
            for (int column = 0; column <= 3; column++) {
                house.row(2, column == 0 ? value : 7, column == 1 ? value : 7,
                        column == 2 ? value : 7, column == 3 ? value : 7);
            }
            for (int column = 0; column <= 3; column++) {
                Edge.query(house, 2);
                house.number(0, column, value);
                Edge.ways(value + " in column " + column, house, new int[] {column});
            }
        }
        for (int column : Edge.outside(4)) {
            Refused.illegal("number(0, " + column + ", 1)", Sample::joined, on -> on.number(0, column, 1));
        }
    }

    private static void rowsAreNumbered() {
        Due.about("Term 1", "numbered from 0 as they come,");
        House house = new House();
        for (int row = 0; row < 30; row++) {
            for (int table = 0; table <= 5; table++) {
                int at = row;
                int of = table;
                Due.is("row " + at + " of table " + of, () -> house.row(of, -at, 0, 0, 0), at);
            }
        }
        Edge.query(house, 5);
        house.number(0, 0, 0);
        Edge.ways("the first", house, new int[] {0});
        Edge.query(house, 5);
        house.number(0, 0, -29);
        Edge.ways("the last", house, new int[] {29});
    }

    private static void indexes() {
        Due.about("Term 1", "and perhaps INDEXES on some columns;");
        for (int table = 0; table <= 5; table++) {
            House house = new House();
            house.table(table, 1 << table % 4);
            for (int column = 0; column <= 3; column++) {
                Edge.query(house, table);
                house.number(0, column, 0);
                Edge.methods(house, column == table % 4 ? 1 : 3);
            }
        }
    }

    private static void noRowsAtFirst() {
        Due.about("Term 1", "at first none of either.");
        House house = new House();
        for (int table = 0; table <= 5; table++) {
            for (int column = 0; column <= 3; column++) {
                Edge.query(house, table);
                Edge.sizes(house, 0);
                house.number(0, column, 0);
                Edge.methods(house, 3);
            }
            Edge.run("no rows in table " + table, house, 0, 0);
            int of = table;
            Due.is("the first row", () -> house.row(of, 0, 0, 0, 0), 0);
        }
    }

    private static void spreads() {
        Due.about("Term 1", "A column's SPREAD is how many unlike values it has,");
        for (int spread = 1; spread <= 30; spread++) {
            House house = new House();
            int column = spread % 4;
            for (int row = 0; row < 30; row++) {
                int value = unlike(row % spread);
                house.row(1, column == 0 ? value : 5, column == 1 ? value : 5,
                        column == 2 ? value : 5, column == 3 ? value : 5);
            }
            house.generator(1);
            for (int other = 0; other <= 3; other++) {
                house.number(0, other, 5);
                Edge.sizes(house, other < column ? 30 : (30 + spread - 1) / spread);
            }
        }
        House house = new House();
        house.generator(0);
        house.number(0, 0, 0);
        // the fourth row has an old value, the fifth a new one
        int[] values = {4, Edge.LEAST, Edge.GREATEST, 4, 0};
        int[] sizes = {1, 1, 1, 2, 2};
        for (int row = 0; row < values.length; row++) {
            house.row(0, values[row], 0, 0, 0);
            house.row(1, row, row, row, row);
            Edge.sizes(house, sizes[row]);
        }
    }

    private static int unlike(int number) {
        return number < Edge.INTS.length ? Edge.INTS[number] : 1000 + number;
    }

    private static void spreadWithoutRows() {
        Due.about("Term 1", "1 if there are no rows.");
        for (int column = 0; column <= 3; column++) {
            House house = new House();
            Edge.spread(house, 1, 3, 3);
            Edge.query(house, 0);
            house.number(0, column, 0);
            house.equal(0, column, 0, 3 - column);
            Edge.sizes(house, 0);
            Edge.query(house, 1, 0);
            house.equal(0, column, 1, column);
            house.equal(1, column, 0, column);
            Edge.plan(house, 1, 0);
            Edge.sizes(house, 0, 0);
            // emptied, the table's old values count no more
            house.table(1, 0);
            Edge.query(house, 1);
            house.number(0, column, 0);
            Edge.sizes(house, 0);
            Edge.alike(house, 1, 2, 8);
            Edge.sizes(house, 2);
        }
    }

    private static void sixGenerators() {
        Due.about("Term 1", "The QUERY has up to six GENERATORS, numbered from 0 as they come,");
        House house = new House();
        for (int generator = 0; generator < 6; generator++) {
            int at = generator;
            Due.is("generator(" + (5 - at) + ")", () -> house.generator(5 - at), at);
        }
        Edge.sizes(house, 0, 0, 0, 0, 0, 0);
        for (int table = 0; table <= 5; table++) {
            int of = table;
            Refused.unsupported("a seventh, of table " + of, Term1Edges::sixOfSix, on -> on.generator(of));
        }
    }

    private static House sixOfSix() {
        House house = new House();
        for (int table = 0; table <= 5; table++) {
            Edge.rows(house, table, 1 + table % 3);
        }
        Edge.generators(house, 0, 1, 2, 3, 4, 5);
        house.run();
        return house;
    }

    private static void severalOfOneTable() {
        Due.about("Term 1", "each of a table (several may be of one),");
        House house = new House();
        Edge.rows(house, 4, 2);
        for (int generator = 0; generator < 6; generator++) {
            int at = generator;
            Due.is("generator(4)", () -> house.generator(4), at);
        }
        Edge.plan(house, 0, 1, 2, 3, 4, 5);
        Edge.sizes(house, 2, 4, 8, 16, 32, 64);
        Due.is("run()", house::run, 64);
        for (int generator = 0; generator < 6; generator++) {
            int of = generator;
            Due.is("way(38, " + of + ")", () -> house.way(38, of), 38 >> 5 - of & 1);
        }
        Refused.unsupported("a seventh", Term1Edges::sixOfOne, on -> on.generator(4));
    }

    private static House sixOfOne() {
        House house = new House();
        Edge.rows(house, 4, 2);
        Edge.generators(house, 4, 4, 4, 4, 4, 4);
        return house;
    }

    private static void twelveConditions() {
        Due.about("Term 1", "and up to twelve CONDITIONS, numbered likewise:");
        for (Add kind : KINDS) {
            House house = new House();
            house.generator(0);
            for (int condition = 0; condition < 12; condition++) {
                Due.is("a condition more", () -> kind.to(house), condition);
            }
            for (Add more : KINDS) {
                Refused.unsupported("a 13th", () -> twelveOf(kind), more::to);
            }
        }
        House house = new House();
        house.generator(0);
        for (int condition = 0; condition < 12; condition++) {
            Add kind = KINDS.get(condition % 3);
            Due.is("a condition more, of another kind", () -> kind.to(house), condition);
        }
    }

    private static House twelveOf(Add kind) {
        House house = new House();
        Edge.spread(house, 0, 5, 3);
        house.generator(0);
        for (int condition = 0; condition < 12; condition++) {
            kind.to(house);
        }
        return house;
    }

    private static void equal() {
        Due.about("Term 1", "EQUAL, a column of a generator = a column of one");
        House house = intsInTwoTables();
        int[][] same = pairs(0);
        Edge.query(house, 0, 1);
        house.equal(0, 0, 1, 3);
        Edge.ways("like ints", house, same);
        Edge.query(house, 0, 1);
        house.equal(1, 3, 0, 0);
        Edge.ways("like ints, the other one first", house, same);
    }

    private static void equalOfTheSame() {
        Due.about("Term 1", "(perhaps the same);");
        House house = new House();
        house.row(3, Edge.LEAST, Edge.GREATEST, 0, 0);
        house.row(3, Edge.LEAST, Edge.LEAST, 1, 0);
        house.row(3, Edge.GREATEST, Edge.GREATEST, 2, 0);
        house.row(3, 0, Edge.LEAST, 3, 0);
        house.row(3, -1, Edge.GREATEST, 4, 0);
        Edge.query(house, 3);
        house.equal(0, 0, 0, 1);
        Edge.ways("two columns of one generator", house, new int[] {1}, new int[] {2});
        Edge.query(house, 3);
        for (int column = 0; column <= 3; column++) {
            house.equal(0, column, 0, column);
        }
        Edge.run("a column and itself", house, 5, 5);
        Edge.query(house, 3, 3);
        house.equal(0, 2, 1, 2);
        house.equal(1, 0, 1, 1);
        Edge.ways("of one table, but of two generators", house, new int[] {1, 1}, new int[] {2, 2});
    }

    private static void number() {
        Due.about("Term 1", "NUMBER, a column of a generator = an int;");
        for (int column = 0; column <= 3; column++) {
            House house = new House();
            for (int value : Edge.INTS) {
                house.row(0, column == 0 ? value : 9, column == 1 ? value : 9,
                        column == 2 ? value : 9, column == 3 ? value : 9);
            }
            for (int row = 0; row < Edge.INTS.length; row++) {
                Edge.query(house, 0);
                house.number(0, column, Edge.INTS[row]);
                Edge.ways("= " + Edge.INTS[row], house, new int[] {row});
            }
            for (int absent : new int[] {Edge.LEAST + 2, -2, 2, 65537, Edge.GREATEST - 2}) {
                Edge.query(house, 0);
                house.number(0, column, absent);
                Edge.ways("= " + absent, house);
            }
        }
    }

    private static void less() {
        Due.about("Term 1", "LESS, a column of a generator < a column of one.");
        House house = intsInTwoTables();
        Edge.query(house, 0, 1);
        house.less(0, 0, 1, 3);
        Edge.ways("lesser ints", house, pairs(-1));
        Edge.query(house, 0, 1);
        house.less(1, 3, 0, 0);
        Edge.ways("greater ints", house, pairs(1));
        Edge.query(house, 0);
        house.less(0, 0, 0, 0);
        Edge.ways("a column and itself", house);
        Edge.query(house, 0);
        house.less(0, 0, 0, 1);
        Edge.ways("below 0", house, new int[] {0}, new int[] {1}, new int[] {2}, new int[] {3});
    }

    /** The ints in column 0 of table 0 and column 3 of table 1, with zeros beside them. */
    private static House intsInTwoTables() {
        House house = new House();
        for (int value : Edge.INTS) {
            house.row(0, value, 0, 0, 0);
            house.row(1, 0, 0, 0, value);
        }
        return house;
    }

    /** The pairs of places in INTS, which are in order, that compare like a sign. */
    private static int[][] pairs(int sign) {
        List<int[]> pairs = new ArrayList<>();
        for (int one = 0; one < Edge.INTS.length; one++) {
            for (int other = 0; other < Edge.INTS.length; other++) {
                if (Integer.compare(one, other) == sign) {
                    pairs.add(new int[] {one, other});
                }
            }
        }
        return pairs.toArray(new int[0][]);
    }

    private static void noQueryAtFirst() {
        Due.about("Term 1", "At first none of either.");
        House house = new House();
        Edge.plan(house);
        for (Add kind : KINDS) {
            Refused.illegal("a condition of no generator", House::new, kind::to);
        }
        Due.is("the first generator", () -> house.generator(5), 0);
        for (int condition = 0; condition < 3; condition++) {
            Add kind = KINDS.get(condition);
            Due.is("the first conditions", () -> kind.to(house), condition);
        }
    }

    private static void allConditionsHold() {
        Due.about("Term 1", "A WAY has a row for each generator, so that all conditions hold;");
        House house = new House();
        Edge.rows(house, 0, 3);
        Edge.generators(house, 0, 0, 0);
        Due.is("no condition: run()", house::run, 27);
        house.less(0, 0, 1, 0);
        Due.is("one condition: run()", house::run, 9);
        house.less(1, 0, 2, 0);
        Edge.ways("two conditions", house, new int[] {0, 1, 2});
        for (int condition = 2; condition < 11; condition++) {
            house.equal(0, 1, 2, 2);
        }
        Edge.ways("eleven conditions", house, new int[] {0, 1, 2});
        house.number(1, 0, 0);
        Edge.ways("the twelfth does not hold", house);
        Edge.query(house, 0, 0);
        house.less(0, 0, 1, 0);
        Edge.ways("two generators", house, new int[] {0, 1}, new int[] {0, 2}, new int[] {1, 2});
        house.generator(5);
        Edge.ways("no row for the third", house);
        house.row(5, 0, 0, 0, 0);
        Edge.ways("a row for the third", house, new int[] {0, 1, 0}, new int[] {0, 2, 0}, new int[] {1, 2, 0});
    }

    private static void noGenerators() {
        Due.about("Term 1", "of no generators there is none.");
        House house = new House();
        Edge.ways("a new object", house);
        Edge.rows(house, 0, 2);
        Edge.ways("rows, but no generators", house);
        house.generator(0);
        Edge.ways("one generator", house, new int[] {0}, new int[] {1});
        house.clear();
        Edge.ways("cleared", house);
        Edge.run("cleared", house, 0, 0);
    }
}

/** Promises 4 to 8: clear, generator, equal, number, less. */
final class QueryEdges {
    private interface Add {
        int to(House house, int generator, int column, int other, int otherColumn);
    }

    private static final Add NUMBER = (house, generator, column, other, v) -> house.number(generator, column, v);

    private QueryEdges() {
    }

    static void all() {
        clearsAll();
        clearLeavesTheRest();
        generatorMore();
        generatorOfNoTable();
        generatorsAreSix();
        equalMore();
        equalOfNothing();
        conditionsAreTwelve();
        numberMore();
        numberRefuses();
        lessMore();
        lessRefuses();
    }

    private static void clearsAll() {
        Due.about("Promise 4", "The query has no generators and no conditions.");
        for (int generators = 0; generators <= 6; generators++) {
            House house = Sample.ofGenerators(generators);
            for (int condition = 0; generators > 0 && condition < 12; condition++) {
                house.less(generators - 1, 0, 0, 1);
            }
            Due.is("clear()", Due.of(house::clear), 0);
            Edge.plan(house);
            Edge.methods(house);
            Edge.sizes(house);
            for (int generator = 0; generator <= 6; generator++) {
                int of = generator;
                Due.illegal("number() of generator " + of, () -> house.number(of, 0, 0));
            }
            Edge.run("nothing", house, 0, 0);
            for (int generator = 0; generator < 6; generator++) {
                int at = generator;
                Due.is("six generators again", () -> house.generator(1), at);
            }
            // no condition of the old query divides
            Edge.sizes(house, 4, 16, 64, 256, 1024, 4096);
            for (int condition = 0; condition < 12; condition++) {
                int at = condition;
                Due.is("twelve conditions again", () -> house.equal(5, 3, 0, 0), at);
            }
            Due.is("clear() once more", Due.of(house::clear), 0);
            Due.is("clear() of nothing", Due.of(house::clear), 0);
            Edge.plan(house);
        }
    }

    private static void clearLeavesTheRest() {
        Due.about("Promise 4", "The query has no generators and no conditions.");
        House house = Sample.full();
        String run = State.ofRun(house);
        house.clear();
        Due.same("the latest run", State.ofRun(house), run);
        Due.unsupported("a full table", () -> house.row(3, 1, 1, 1, 1));
        Due.is("a table's next row", () -> house.row(2, 1, 1, 1, 1), 2);
        house.generator(3);
        Edge.sizes(house, 30);
        house.number(0, 2, 1);
        Edge.methods(house, 1);
    }

    private static void generatorMore() {
        Due.about("Promise 5", "A generator more: its number.");
        for (int table = 0; table <= 5; table++) {
            House house = new House();
            Edge.rows(house, table, 30);
            for (int generator = 0; generator < 6; generator++) {
                int at = generator;
                int of = at == 3 ? table : (table + 1) % 6;
                Due.is("generator(" + of + ")", () -> house.generator(of), at);
            }
            Edge.sizes(house, 0, 0, 0, 0, 0, 0);
            house.row((table + 1) % 6, 1, 1, 1, 1);
            Edge.plan(house, 0, 1, 2, 4, 5, 3);
            Edge.sizes(house, 1, 1, 1, 1, 1, 30);
        }
    }

    private static void generatorOfNoTable() {
        Due.about("Promise 5", "IllegalArgumentException if there is no such table;");
        for (int table : Edge.outside(6)) {
            for (int generators = 0; generators <= 5; generators++) {
                int there = generators;
                Refused.illegal("generator(" + table + ") behind " + there, () -> Sample.ofGenerators(there),
                        on -> on.generator(table));
            }
            Refused.illegal("generator(" + table + ")", Sample::joined, on -> on.generator(table));
            // both at once: the one that the document names first
            Refused.illegal("generator(" + table + ") behind six", Sample::full, on -> on.generator(table));
        }
        House house = new House();
        Due.is("generator(0)", () -> house.generator(0), 0);
        Due.is("generator(5)", () -> house.generator(5), 1);
    }

    private static void generatorsAreSix() {
        Due.about("Promise 5", "UnsupportedOperationException if there are six.");
        House house = Sample.ofGenerators(5);
        Due.is("the sixth", () -> house.generator(0), 5);
        Due.unsupported("a seventh", () -> house.generator(0));
        for (int table = 0; table <= 5; table++) {
            int of = table;
            Refused.unsupported("generator(" + of + ")", () -> Sample.ofGenerators(6), on -> on.generator(of));
            Refused.unsupported("generator(" + of + ")", Sample::full, on -> on.generator(of));
        }
        house.clear();
        Due.is("after clear()", () -> house.generator(0), 0);
    }

    private static void equalMore() {
        Due.about("Promise 6", "An EQUAL: its number.");
        numbered(House::equal);
        House house = threeRows();
        Edge.query(house, 0, 0);
        house.equal(0, 0, 1, 1);
        Edge.ways("column 0 = column 1", house, new int[] {0, 1}, new int[] {1, 0});
        house.equal(1, 3, 0, 3);
        Edge.ways("and column 3 = column 3", house, new int[] {0, 1}, new int[] {1, 0});
        house.equal(0, 2, 1, 3);
        Edge.ways("and column 2 = column 3", house);
    }

    private static void numberMore() {
        Due.about("Promise 7", "A NUMBER: its number.");
        numbered(NUMBER);
        House house = threeRows();
        Edge.query(house, 0, 0);
        house.number(1, 0, Edge.LEAST);
        Edge.ways("the least int", house, new int[] {0, 0}, new int[] {1, 0}, new int[] {2, 0});
        house.number(0, 0, Edge.GREATEST);
        Edge.ways("and the greatest", house, new int[] {1, 0});
        house.number(0, 0, Edge.LEAST);
        Edge.ways("never both in one column", house);
    }

    private static void lessMore() {
        Due.about("Promise 8", "A LESS: its number.");
        numbered(House::less);
        House house = threeRows();
        Edge.query(house, 0, 0);
        house.less(0, 0, 1, 0);
        Edge.ways("column 0 < column 0", house, new int[] {0, 1}, new int[] {0, 2}, new int[] {2, 1});
        house.less(1, 2, 0, 2);
        Edge.ways("and column 2 > column 2", house, new int[] {2, 1});
    }

    private static House threeRows() {
        House house = new House();
        house.row(0, Edge.LEAST, Edge.GREATEST, 0, 7);
        house.row(0, Edge.GREATEST, Edge.LEAST, 1, 7);
        house.row(0, 0, 1, 2, 8);
        return house;
    }

    /** From 0 on to the eleventh, whatever kinds come between. */
    private static void numbered(Add kind) {
        House house = Sample.ofGenerators(6);
        for (int condition = 0; condition < 12; condition++) {
            int at = condition;
            int column = condition % 4;
            int generator = condition % 6;
            if (condition % 3 == 2) {
                Due.is("number()", () -> house.number(0, 0, 0), at);
            } else {
                Due.is("a condition", () -> kind.to(house, generator, column, 5 - generator, 3 - column), at);
            }
        }
    }

    private static void equalOfNothing() {
        Due.about("Promise 6", "IllegalArgumentException if there is no such generator or column;");
        firstSide("equal", House::equal);
        secondSide("equal", House::equal);
    }

    private static void conditionsAreTwelve() {
        Due.about("Promise 6", "UnsupportedOperationException if there are twelve conditions.");
        twelve("equal", House::equal);
    }

    private static void numberRefuses() {
        Due.about("Promise 7", "Exceptions as for equal().");
        for (int v : new int[] {0, Edge.LEAST, Edge.GREATEST}) {
            firstSide("number", (house, generator, column, other, none) -> house.number(generator, column, v));
            twelve("number", (house, generator, column, other, none) -> house.number(generator, column, v));
        }
    }

    private static void lessRefuses() {
        Due.about("Promise 8", "Exceptions as for equal().");
        firstSide("less", House::less);
        secondSide("less", House::less);
        twelve("less", House::less);
    }

    private static void firstSide(String name, Add kind) {
        for (int generators = 0; generators <= 6; generators++) {
            int there = generators;
            House house = Sample.ofGenerators(there);
            if (there > 0) {
                Due.is(name + " of the first", () -> kind.to(house, 0, 0, 0, 0), 0);
                Due.is(name + " of the last", () -> kind.to(house, there - 1, 3, there - 1, 3), 1);
            }
            for (int generator : Edge.outside(there)) {
                Refused.illegal(name + " of generator " + generator + " of " + there,
                        () -> Sample.ofGenerators(there), on -> kind.to(on, generator, 0, 0, 0));
            }
        }
        for (int column : Edge.outside(4)) {
            Refused.illegal(name + " of column " + column, Sample::joined, on -> kind.to(on, 1, column, 0, 0));
            Refused.illegal(name + " of column " + column + " of no generator", Sample::joined,
                    on -> kind.to(on, 2, column, 0, 0));
            Refused.illegal(name + " of column " + column + " behind twelve", Sample::full,
                    on -> kind.to(on, 0, column, 0, 0));
        }
        Refused.illegal(name + " of a generator that is cleared", QueryEdges::cleared, on -> kind.to(on, 0, 0, 0, 0));
    }

    private static void secondSide(String name, Add kind) {
        for (int generators = 1; generators <= 6; generators++) {
            int there = generators;
            House house = Sample.ofGenerators(there);
            Due.is(name + ", other the last", () -> kind.to(house, 0, 0, there - 1, 3), 0);
            Due.is(name + ", other the first", () -> kind.to(house, there - 1, 3, 0, 0), 1);
            for (int other : Edge.outside(there)) {
                Refused.illegal(name + ", other generator " + other + " of " + there,
                        () -> Sample.ofGenerators(there), on -> kind.to(on, 0, 0, other, 0));
            }
        }
        for (int column : Edge.outside(4)) {
            Refused.illegal(name + ", other column " + column, Sample::joined, on -> kind.to(on, 0, 3, 1, column));
            Refused.illegal(name + ", other column " + column + " of the same generator", Sample::joined,
                    on -> kind.to(on, 1, 3, 1, column));
            Refused.illegal(name + ", other column " + column + " behind twelve", Sample::full,
                    on -> kind.to(on, 0, 0, 0, column));
        }
    }

    private static House cleared() {
        House house = Sample.joined();
        house.clear();
        return house;
    }

    private static void twelve(String name, Add kind) {
        House house = Sample.ofGenerators(2);
        for (int condition = 0; condition < 11; condition++) {
            house.less(0, 0, 1, 0);
        }
        Due.is(name + ", the twelfth", () -> kind.to(house, 1, 3, 0, 0), 11);
        Due.unsupported(name + ", a 13th", () -> kind.to(house, 1, 3, 0, 0));
        Refused.unsupported(name + ", a 13th", Sample::full, on -> kind.to(on, 0, 0, 0, 0));
        Refused.unsupported(name + ", a 13th of the last", Sample::full, on -> kind.to(on, 5, 3, 5, 3));
        house.clear();
        house.generator(0);
        Due.is(name + " after clear()", () -> kind.to(house, 0, 0, 0, 0), 0);
    }
}

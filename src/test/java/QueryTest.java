/** Promises 4 to 8: clear, generator, equal, number, less. */
public final class QueryTest {
    private static final int[] WRONG_COLUMNS = {-1, 4, 5, Integer.MIN_VALUE, Integer.MAX_VALUE};
    private static final int[] WRONG_TABLES = {-1, 6, Integer.MIN_VALUE, Integer.MAX_VALUE};

    public static void main(String[] args) {
        clearing();
        generators();
        generatorRefuses();
        equalHolds();
        numberHolds();
        lessHolds();
        conditionsAreNumbered();
        conditionsRefuse();
        Due.end();
    }

    private static void clearing() {
        House house = sample();
        house.generator(0);
        house.generator(1);
        house.equal(0, 0, 1, 0);
        Due.is("run", house::run, 3);
        int looked = house.looks();
        Due.is("clear", Due.of(house::clear), 0);
        Due.noSuch("no plan", () -> house.plan(0));
        Due.noSuch("no method", () -> house.method(0));
        Due.noSuch("no size", () -> house.size(0));
        Due.illegal("no generator", () -> house.number(0, 0, 0));
        Due.is("the latest run's looks", house::looks, looked);
        Due.is("the latest run's last way", () -> house.way(2, 0), 2);
        Due.is("generators begin anew", () -> house.generator(1), 0);
        Due.is("no conditions: size", () -> house.size(0), 3);
        Due.is("conditions begin anew", () -> house.less(0, 0, 0, 1), 0);
        house.clear();
        Due.is("clear twice", Due.of(house::clear), 0);
        Due.is("a run of nothing", house::run, 0);
        Due.is("its looks", house::looks, 0);
        Due.noSuch("its ways", () -> house.way(0, 0));
        Due.is("tables stay", () -> house.row(0, 0, 0, 0, 0), 3);
    }

    private static void generators() {
        House house = new House();
        int[] tables = {5, 0, 5, 5, 3, 0};
        for (int row = 0; row < 2; row++) {
            house.row(0, row, 0, 0, 0);
        }
        for (int row = 0; row < 3; row++) {
            house.row(3, row, 0, 0, 0);
        }
        house.row(5, 0, 0, 0, 0);
        for (int generator = 0; generator < 6; generator++) {
            int at = generator;
            Due.is("generator", () -> house.generator(tables[at]), generator);
        }
        int[] plan = {0, 2, 3, 1, 5, 4};
        int[] sizes = {1, 1, 1, 2, 4, 12};
        for (int place = 0; place < 6; place++) {
            int at = place;
            Due.is("plan", () -> house.plan(at), plan[place]);
            Due.is("size", () -> house.size(at), sizes[place]);
        }
    }

    private static void generatorRefuses() {
        House house = sample();
        house.generator(0);
        house.run();
        String before = State.of(house);
        for (int table : WRONG_TABLES) {
            Due.illegal("generator of " + table, () -> house.generator(table));
        }
        Due.same("refused generators", State.of(house), before);
        for (int generator = 1; generator < 6; generator++) {
            int at = generator;
            Due.is("generator", () -> house.generator(1), at);
        }
        String full = State.of(house);
        Due.unsupported("the seventh", () -> house.generator(0));
        Due.illegal("the seventh, of no table", () -> house.generator(6));
        Due.same("refused sevenths", State.of(house), full);
        house.clear();
        Due.is("after clear", () -> house.generator(0), 0);
    }

    private static void equalHolds() {
        House house = sample();
        house.generator(0);
        house.generator(1);
        house.equal(1, 1, 0, 2);
        Due.is("column 1 of table 1 = column 2 of table 0", house::run, 2);
        ways(house, new int[][] {{0, 1}, {2, 0}});
        house.clear();
        house.generator(0);
        house.equal(0, 0, 0, 1);
        Due.is("of the same generator", house::run, 1);
        ways(house, new int[][] {{1}});
        house.equal(0, 3, 0, 3);
        Due.is("of the same column", house::run, 1);
        house.clear();
        house.generator(1);
        house.generator(1);
        house.equal(0, 2, 1, 2);
        Due.is("of one table twice", house::run, 5);
        ways(house, new int[][] {{0, 0}, {0, 2}, {1, 1}, {2, 0}, {2, 2}});
    }

    private static void numberHolds() {
        House house = sample();
        house.generator(0);
        house.number(0, 3, Integer.MIN_VALUE);
        Due.is("least int", house::run, 1);
        ways(house, new int[][] {{2}});
        house.clear();
        house.generator(0);
        house.generator(0);
        house.number(1, 0, 2);
        Due.is("of the second generator", house::run, 3);
        ways(house, new int[][] {{0, 1}, {1, 1}, {2, 1}});
        house.number(1, 0, 3);
        Due.is("two unlike numbers", house::run, 0);
    }

    private static void lessHolds() {
        House house = sample();
        house.generator(0);
        house.generator(0);
        house.less(1, 3, 0, 3);
        Due.is("less, by ints", house::run, 3);
        ways(house, new int[][] {{0, 2}, {1, 0}, {1, 2}});
        house.clear();
        house.generator(0);
        house.less(0, 0, 0, 1);
        Due.is("of the same generator", house::run, 1);
        ways(house, new int[][] {{2}});
        house.less(0, 2, 0, 2);
        Due.is("never of the same column", house::run, 0);
    }

    private static void conditionsAreNumbered() {
        House house = sample();
        house.generator(0);
        house.generator(1);
        for (int condition = 0; condition < 12; condition += 3) {
            int at = condition;
            Due.is("equal", () -> house.equal(0, 3, 1, 3), at);
            Due.is("number", () -> house.number(1, 3, 0), at + 1);
            Due.is("less", () -> house.less(0, 0, 0, 3), at + 2);
        }
        String before = State.of(house);
        Due.unsupported("a 13th, equal", () -> house.equal(0, 0, 0, 0));
        Due.unsupported("a 13th, number", () -> house.number(0, 0, 0));
        Due.unsupported("a 13th, less", () -> house.less(0, 0, 0, 0));
        Due.illegal("a 13th of no generator, equal", () -> house.equal(2, 0, 0, 0));
        Due.illegal("a 13th of no column, number", () -> house.number(0, 4, 0));
        Due.illegal("a 13th of no other column, less", () -> house.less(0, 0, 0, -1));
        Due.same("refused conditions", State.of(house), before);
        house.clear();
        house.generator(0);
        Due.is("after clear", () -> house.equal(0, 0, 0, 0), 0);
    }

    private static void conditionsRefuse() {
        House house = sample();
        house.generator(0);
        house.generator(1);
        house.equal(0, 0, 1, 0);
        house.run();
        String before = State.of(house);
        for (int generator : new int[] {-1, 2, 5, 6, Integer.MIN_VALUE, Integer.MAX_VALUE}) {
            String what = " of generator " + generator;
            Due.illegal("equal" + what, () -> house.equal(generator, 0, 0, 0));
            Due.illegal("equal, other" + what, () -> house.equal(0, 0, generator, 0));
            Due.illegal("number" + what, () -> house.number(generator, 0, 0));
            Due.illegal("less" + what, () -> house.less(generator, 0, 0, 0));
            Due.illegal("less, other" + what, () -> house.less(0, 0, generator, 0));
        }
        for (int column : WRONG_COLUMNS) {
            String what = " of column " + column;
            Due.illegal("equal" + what, () -> house.equal(0, column, 1, 0));
            Due.illegal("equal, other" + what, () -> house.equal(0, 0, 1, column));
            Due.illegal("number" + what, () -> house.number(1, column, 0));
            Due.illegal("less" + what, () -> house.less(0, column, 1, 0));
            Due.illegal("less, other" + what, () -> house.less(0, 0, 1, column));
        }
        Due.same("refused conditions", State.of(house), before);
        Due.is("the next condition", () -> house.number(0, 0, 0), 1);
    }

    private static House sample() {
        House house = new House();
        house.row(0, 1, 0, 7, 0);
        house.row(0, 2, 2, 6, Integer.MAX_VALUE);
        house.row(0, 3, 4, 5, Integer.MIN_VALUE);
        house.row(1, 3, 5, 0, 0);
        house.row(1, 2, 7, 1, 0);
        house.row(1, 1, 8, 0, 0);
        return house;
    }

    private static void ways(House house, int[][] want) {
        for (int way = 0; way < want.length; way++) {
            for (int generator = 0; generator < want[way].length; generator++) {
                int at = way;
                int of = generator;
                Due.is("way " + way + " of " + generator, () -> house.way(at, of), want[way][generator]);
            }
        }
        Due.noSuch("a way more", () -> house.way(want.length, 0));
    }
}

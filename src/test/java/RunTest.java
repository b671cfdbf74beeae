/** Promises 12 to 14: run, looks, way. */
public final class RunTest {
    public static void main(String[] args) {
        nothing();
        noRows();
        waysInOrder();
        looksByEachMethod();
        looksWithoutChoices();
        threeThousand();
        tooManyAtTheEnd();
        tooManyOnTheWay();
        runIsKept();
        sixGenerators();
        wayRefuses();
        Due.end();
    }

    private static void nothing() {
        House house = new House();
        rows(house, 0, 3);
        Due.is("a run of no generators", house::run, 0);
        Due.is("its looks", house::looks, 0);
        Due.noSuch("its ways", () -> house.way(0, 0));
        house.generator(0);
        Due.is("a run", house::run, 3);
        house.clear();
        Due.is("a run of no generators after it", house::run, 0);
        Due.is("its looks", house::looks, 0);
        Due.noSuch("its ways", () -> house.way(0, 0));
    }

    private static void noRows() {
        House house = new House();
        rows(house, 0, 4);
        house.generator(0);
        house.generator(1);
        Due.is("a table without rows", house::run, 0);
        Due.is("nothing is looked at", house::looks, 0);
        Due.noSuch("no way", () -> house.way(0, 0));
    }

    /** The plan goes to generator 2, then 1, then 0; the ways go by 0, then 1, then 2. */
    private static void waysInOrder() {
        House house = new House();
        rows(house, 0, 4);
        rows(house, 1, 3);
        rows(house, 2, 2);
        house.generator(0);
        house.generator(1);
        house.generator(2);
        Due.is("plan", () -> house.plan(0), 2);
        Due.is("run", house::run, 24);
        Due.is("looks", house::looks, 2 + 2 * 3 + 6 * 4);
        for (int way = 0; way < 24; way++) {
            int at = way;
            Due.is("row of 0", () -> house.way(at, 0), way / 6);
            Due.is("row of 1", () -> house.way(at, 1), way / 2 % 3);
            Due.is("row of 2", () -> house.way(at, 2), way % 2);
        }
        Due.noSuch("a way more", () -> house.way(24, 0));
    }

    private static void looksByEachMethod() {
        for (int method = 1; method <= 3; method++) {
            House house = new House();
            house.table(1, method == 1 ? 1 : 0);
            house.row(0, 1, 2, 0, 0);
            house.row(0, 2, 2, 0, 0);
            house.row(0, 3, 2, 0, 0);
            house.row(1, 1, 1, 0, 0);
            house.row(1, 1, 2, 0, 0);
            house.row(1, 2, 1, 0, 0);
            house.row(1, 9, 1, 0, 0);
            house.generator(0);
            house.generator(1);
            if (method == 3) {
                house.less(1, 1, 0, 1);
            } else {
                house.equal(0, 0, 1, 0);
                house.less(1, 1, 0, 1);
            }
            int want = method;
            Due.is("method", () -> house.method(1), want);
            Due.is("run by " + method, house::run, method == 3 ? 9 : 2);
            Due.is("looks by " + method, house::looks, 3 + (method == 1 ? 3 : method == 2 ? 4 + 3 : 3 * 4));
        }
        House house = new House();
        house.table(0, 8);
        house.row(0, 0, 0, 0, 5);
        house.row(0, 1, 0, 0, 5);
        house.row(0, 2, 0, 0, 6);
        house.row(1, 0, 0, 0, 0);
        house.row(1, 1, 0, 0, 0);
        house.generator(1);
        house.generator(0);
        house.number(1, 3, 5);
        house.equal(1, 0, 1, 1);
        Due.is("plan", () -> house.plan(0), 1);
        Due.is("by an index and a number", house::run, 2);
        Due.is("its looks", house::looks, 2 + 2);
        house.row(0, 9, 0, 0, 5);
        house.row(0, 8, 0, 0, 5);
        house.row(0, 7, 0, 0, 5);
        house.row(0, 6, 0, 0, 5);
        house.clear();
        house.generator(1);
        house.generator(0);
        house.number(1, 3, 5);
        Due.is("the number's generator comes second", () -> house.plan(0), 0);
        Due.is("run", house::run, 12);
        Due.is("looks for each choice", house::looks, 2 + 2 * 6);
    }

    private static void looksWithoutChoices() {
        House house = new House();
        house.row(0, 0, 0, 0, 0);
        for (int row = 0; row < 5; row++) {
            house.row(1, row, row, 0, 0);
            house.row(2, row, row, 0, 0);
            house.row(2, row, row, 0, 0);
        }
        house.generator(0);
        house.generator(1);
        house.generator(2);
        house.number(0, 0, 1);
        house.equal(1, 0, 0, 0);
        house.less(2, 0, 1, 1);
        Due.is("run", house::run, 0);
        Due.is("put under their values all the same", house::looks, 1 + 5);
        house.equal(2, 1, 1, 1);
        Due.is("run", house::run, 0);
        Due.is("twice", house::looks, 1 + 5 + 10);
        house.table(1, 1);
        Due.is("run", house::run, 0);
        Due.is("the table without rows comes first", house::looks, 0 + 1 + 10);
    }

    private static void threeThousand() {
        House house = new House();
        rows(house, 0, 10);
        rows(house, 1, 10);
        rows(house, 2, 30);
        house.generator(2);
        house.generator(0);
        house.generator(1);
        Due.is("just 3000", house::run, 3000);
        Due.is("looks", house::looks, 10 + 100 + 3000);
        Due.is("the last way", () -> house.way(2999, 0), 29);
        Due.is("the last way", () -> house.way(2999, 2), 9);
        Due.is("a way within", () -> house.way(1234, 0), 12);
        Due.is("a way within", () -> house.way(1234, 1), 3);
        Due.is("a way within", () -> house.way(1234, 2), 4);
        Due.noSuch("way 3000", () -> house.way(3000, 0));
        house.row(3, 1, 0, 0, 0);
        house.generator(3);
        Due.is("still 3000", house::run, 3000);
        Due.is("looks", house::looks, 1 + 10 + 100 + 3000);
    }

    private static void tooManyAtTheEnd() {
        House house = new House();
        rows(house, 0, 29);
        rows(house, 1, 29);
        rows(house, 2, 4);
        house.generator(0);
        house.generator(1);
        Due.is("run", house::run, 841);
        house.generator(2);
        String before = State.of(house);
        Due.unsupported("3364 choices", house::run);
        Due.unsupported("again", house::run);
        Due.same("a refused run", State.of(house), before);
        Due.is("the run before", () -> house.way(840, 1), 28);
        Due.noSuch("had no generator 2", () -> house.way(0, 2));
        house.clear();
        house.table(2, 0);
        house.row(2, 0, 0, 0, 1);
        house.row(2, 1, 0, 0, 1);
        house.row(2, 2, 0, 0, 3);
        house.row(2, 3, 0, 0, 1);
        house.generator(0);
        house.generator(1);
        house.generator(2);
        house.less(2, 0, 2, 3);
        Due.is("conditions count ahead of the limit", house::run, 2 * 841);
    }

    /** Too many on the way are refused, though in the end there would be none at all. */
    private static void tooManyOnTheWay() {
        House house = new House();
        for (int row = 0; row < 30; row++) {
            house.row(0, row < 25 ? 0 : row, 0, row, 0);
            house.row(1, 100, 0, row, 0);
        }
        house.generator(0);
        Due.is("run", house::run, 30);
        house.generator(0);
        house.generator(0);
        house.generator(1);
        house.equal(0, 0, 1, 0);
        house.equal(1, 0, 2, 0);
        house.equal(2, 0, 3, 0);
        String before = State.of(house);
        for (int place = 0; place < 4; place++) {
            int at = place;
            Due.is("plan", () -> house.plan(at), at);
        }
        Due.is("as many are expected", () -> house.size(2), 750);
        Due.unsupported("15630 choices on the way", house::run);
        Due.same("a refused run", State.of(house), before);
        house.equal(0, 2, 1, 2);
        Due.is("with fewer on the way", house::run, 0);
    }

    private static void runIsKept() {
        House house = new House();
        house.row(0, 1, 0, 0, 0);
        house.row(0, 2, 0, 0, 0);
        house.generator(0);
        house.number(0, 0, 2);
        Due.is("run", house::run, 1);
        house.generator(0);
        house.less(0, 0, 1, 0);
        house.row(0, 3, 0, 0, 0);
        house.table(0, 15);
        house.clear();
        Due.is("the run is as it was", () -> house.way(0, 0), 1);
        Due.is("its looks", house::looks, 2);
        Due.noSuch("it had one generator", () -> house.way(0, 1));
        Due.noSuch("and one way", () -> house.way(1, 0));
        house.row(0, 1, 0, 0, 0);
        house.generator(0);
        house.generator(0);
        Due.is("a run of other generators", house::run, 1);
        Due.is("its second generator", () -> house.way(0, 1), 0);
        Due.is("its looks", house::looks, 2);
    }

    private static void sixGenerators() {
        House house = new House();
        for (int row = 0; row < 30; row++) {
            house.row(0, row, row + 1, 0, 0);
        }
        for (int generator = 0; generator < 6; generator++) {
            house.generator(0);
        }
        for (int generator = 0; generator < 5; generator++) {
            house.equal(generator, 0, generator + 1, 1);
        }
        Due.is("chains of six rows", house::run, 25);
        for (int way = 0; way < 25; way++) {
            for (int generator = 0; generator < 6; generator++) {
                int at = way;
                int of = generator;
                Due.is("row", () -> house.way(at, of), way + 5 - generator);
            }
        }
        Due.is("looks", house::looks, 30 + 5 * 30 + 29 + 28 + 27 + 26 + 25);
    }

    private static void wayRefuses() {
        House house = new House();
        rows(house, 0, 2);
        house.generator(0);
        house.generator(0);
        house.run();
        String before = State.of(house);
        for (int way : new int[] {-1, 4, 5, 3000, Integer.MIN_VALUE, Integer.MAX_VALUE}) {
            Due.noSuch("way " + way, () -> house.way(way, 0));
        }
        for (int generator : new int[] {-1, 2, 5, 6, 7, 32, Integer.MIN_VALUE, Integer.MAX_VALUE}) {
            Due.noSuch("of " + generator, () -> house.way(0, generator));
        }
        Due.noSuch("neither", () -> house.way(-1, -1));
        Due.same("refused ways", State.of(house), before);
        Due.is("the last one", () -> house.way(3, 1), 1);
        house.generator(0);
        Due.noSuch("a generator that came after the run", () -> house.way(0, 2));
    }

    private static void rows(House house, int table, int rows) {
        for (int row = 0; row < rows; row++) {
            house.row(table, row, 0, 0, 0);
        }
    }
}

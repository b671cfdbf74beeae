/** Promises 12 to 14: run, looks, way. */
final class RunEdges {
    private RunEdges() {
    }

    static void all() {
        howManyWays();
        threeThousand();
        atEachGenerator();
        notBeforeTheConditions();
        runBeforeStays();
        longRunBeforeStays();
        noRunBefore();
        looksOfTheLatest();
        mostLooks();
        rowsOfTheLatest();
        waysInOrder();
        noSuchWay();
        noSuchGenerator();
    }

    private static void howManyWays() {
        Due.about("Promise 12", "A run: how many WAYS there are.");
        House house = new House();
        Due.is("no generator", house::run, 0);
        house.generator(0);
        Due.is("no rows", house::run, 0);
        house.row(0, Edge.LEAST, Edge.GREATEST, 0, 0);
        Due.is("one row", house::run, 1);
        Due.is("the same once more", house::run, 1);
        house.less(0, 1, 0, 0);
        Due.is("a condition that does not hold", house::run, 0);
        Edge.query(house, 0, 0, 0, 0, 0, 0);
        Due.is("six generators, one row", house::run, 1);
        house.row(0, Edge.GREATEST, Edge.LEAST, 0, 0);
        Due.is("six generators, two rows", house::run, 64);
        house.equal(0, 0, 5, 1);
        Due.is("a condition that half of them hold", house::run, 32);
    }

    /**
     * Tables 0 to 2 whose columns 0 have one value in 15, 10 and 20 rows and another in one row, but
     * table 2 only if it is told: by EQUALs there are 3000 choices, or 3001.
     */
    private static void fill(House house, boolean oneMore) {
        Edge.alike(house, 0, 15, 0);
        Edge.alike(house, 0, 1, 1);
        Edge.alike(house, 1, 10, 0);
        Edge.alike(house, 1, 1, 1);
        Edge.alike(house, 2, 20, 0);
        Edge.alike(house, 2, oneMore ? 1 : 0, 1);
    }

    private static void join(House house) {
        house.equal(0, 0, 1, 0);
        house.equal(1, 0, 2, 0);
    }

    static House joined(boolean oneMore) {
        House house = new House();
        fill(house, oneMore);
        Edge.query(house, 0, 1, 2);
        join(house);
        return house;
    }

    private static void threeThousand() {
        Due.about("Promise 12", "UnsupportedOperationException if there would be more than 3000 choices");
        House house = joined(false);
        Edge.plan(house, 1, 0, 2);
        Edge.run("3000 choices", house, 3000, 11 + (16 + 151) + (20 + 3000));
        Due.is("way(2999, 0)", () -> house.way(2999, 0), 14);
        Due.noSuch("way(3000, 0)", () -> house.way(3000, 0));
        house.row(2, 1, 0, 0, 0);
        Due.unsupported("3001 choices", house::run);
        house.number(1, 0, 0);
        Due.is("3000 again", house::run, 3000);
        Refused.unsupported("3001 choices", () -> joined(true), House::run);
        // far more than 3000
        Refused.unsupported("27000 choices", () -> alike(30, 3), House::run);
        Refused.unsupported("729000000 choices", () -> alike(30, 6), House::run);
        Edge.run("2744 choices", alike(14, 3), 2744, 14 + 14 * 14 + 14 * 14 * 14);
        Refused.unsupported("3375 choices", () -> alike(15, 3), House::run);
        Edge.run("729 choices", alike(3, 6), 729, 3 + 9 + 27 + 81 + 243 + 729);
        Refused.unsupported("4096 choices", () -> alike(4, 6), House::run);
    }

    private static House alike(int rows, int generators) {
        House house = new House();
        Edge.alike(house, 4, rows, 1);
        for (int generator = 0; generator < generators; generator++) {
            house.generator(4);
        }
        return house;
    }

    /** As many generators of one row ahead, and behind such as no choice passes, as are told. */
    private static House amid(boolean oneMore, int ahead, int behind) {
        House house = new House();
        fill(house, oneMore);
        house.row(4, 5, 5, 5, 5);
        Edge.alike(house, 3, 30, 9);
        Edge.query(house, 0, 1, 2);
        join(house);
        for (int generator = 0; generator < ahead; generator++) {
            house.generator(4);
        }
        for (int generator = 0; generator < behind; generator++) {
            int added = house.generator(3);
            house.equal(added, 0, 0, 0);
        }
        return house;
    }

    private static void atEachGenerator() {
        Due.about("Promise 12", "choices at some generator");
        for (int ahead = 0; ahead <= 3; ahead++) {
            for (int behind = 0; behind <= 3 - ahead; behind++) {
                int first = ahead;
                int last = behind;
                String what = ahead + " ahead, " + behind + " behind";
                House house = amid(false, first, last);
                // the one whose choices are the most stands behind those of one row
                Due.is(what + ": plan()", () -> house.plan(first + 2), 2);
                int looks = ahead + 11 + (16 + 151) + (20 + 3000) + 30 * behind;
                Edge.run(what, house, behind > 0 ? 0 : 3000, looks);
                Refused.unsupported(what + ", 3001", () -> amid(true, first, last), House::run);
            }
        }
    }

    private static void notBeforeTheConditions() {
        Due.about("Promise 12", "if there would be more than 3000 choices at some generator");
        // rows are counted with which the conditions hold, not those that are looked at
        House house = alike(30, 3);
        house.less(2, 0, 2, 0);
        house.less(0, 0, 0, 0);
        house.less(1, 0, 1, 0);
        Edge.run("none of 30", house, 0, 30);
        house = new House();
        Edge.rows(house, 0, 30);
        Edge.query(house, 0, 0, 0);
        house.less(0, 0, 1, 0);
        Due.unsupported("435 times 30", house::run);
        house.less(1, 0, 2, 0);
        Due.unsupported("4060 of 27000", house::run);
        house.equal(0, 0, 2, 0);
        Due.is("none of 27000", house::run, 0);
        Edge.query(house, 0, 0, 0);
        house.equal(0, 1, 1, 1);
        house.equal(1, 0, 2, 0);
        Due.is("900 of 27000", house::run, 900);
    }

    private static void runBeforeStays() {
        Due.about("Promise 12", "(the run before stays).");
        House house = new House();
        fill(house, true);
        Edge.query(house, 0);
        Edge.run("the run before", house, 16, 16);
        house.clear();
        Edge.generators(house, 0, 1, 2);
        join(house);
        Due.unsupported("3001 choices", house::run);
        Due.unsupported("3001 choices again", house::run);
        Due.is("looks()", house::looks, 16);
        for (int way = 0; way < 16; way++) {
            int at = way;
            Due.is("way(" + at + ", 0)", () -> house.way(at, 0), at);
        }
        Due.noSuch("way(16, 0)", () -> house.way(16, 0));
        Due.noSuch("way(0, 1)", () -> house.way(0, 1));
        Refused.unsupported("a run refused again", Sample::ranTooFar, House::run);
        // refused at the third generator; then a run of fewer ways takes the place of the run before
        house.number(0, 0, 1);
        Edge.ways("a run after it", house, new int[] {15, 10, 20});
    }

    private static final int PART = 100;

    /** All ways of a run of 3000 after a refused one, a part of them from each of several objects. */
    private static void longRunBeforeStays() {
        Due.about("Promise 12", "(the run before stays).");
        for (int part = 0; part < 3000; part += PART) {
            House house = joined(false);
            house.run();
            house.row(2, 1, 0, 0, 0);
            Due.unsupported("3001 choices", house::run);
            for (int way = part; way < part + PART; way++) {
                int at = way;
                Due.is("way(" + at + ", 0)", () -> house.way(at, 0), at / 200);
                Due.is("way(" + at + ", 1)", () -> house.way(at, 1), at / 20 % 10);
                Due.is("way(" + at + ", 2)", () -> house.way(at, 2), at % 20);
            }
            Due.is("looks()", house::looks, 11 + (16 + 151) + (20 + 3000));
        }
    }

    private static void noRunBefore() {
        Due.about("Promise 12", "(the run before stays).");
        House house = joined(true);
        Due.unsupported("3001 choices", house::run);
        Due.is("looks()", house::looks, 0);
        Due.noSuch("way(0, 0)", () -> house.way(0, 0));
        Due.noSuch("way(2999, 2)", () -> house.way(2999, 2));
    }

    private static void looksOfTheLatest() {
        Due.about("Promise 13", "How many rows the latest run has looked at.");
        House house = new House();
        Due.is("before any run", house::looks, 0);
        Edge.rows(house, 0, 30);
        Edge.query(house, 0);
        Due.is("still before any run", house::looks, 0);
        Edge.run("one generator", house, 30, 30);
        Due.is("asked again", house::looks, 30);
        Edge.run("each run anew", house, 30, 30);
        house.generator(0);
        house.table(1, 1);
        house.row(1, 0, 0, 0, 0);
        Due.is("before the next run", house::looks, 30);
        Edge.run("two generators", house, 900, 930);
        house.table(0, 15);
        Due.is("its table is empty now", house::looks, 930);
        house.clear();
        Due.is("its query is cleared", house::looks, 930);
        Edge.run("no generator", house, 0, 0);
    }

    /** From the third generator on 3000 choices, each of which looks at 30 rows and passes one. */
    private static void mostLooks() {
        Due.about("Promise 13", "How many rows the latest run has looked at.");
        House house = new House();
        fill(house, false);
        Edge.alike(house, 3, 29, 9);
        Edge.alike(house, 3, 1, -1);
        Edge.query(house, 0, 1, 2, 3, 3, 3);
        join(house);
        for (int generator = 3; generator < 6; generator++) {
            house.less(generator, 0, 0, 0);
        }
        Edge.run("six generators", house, 3000, 11 + (16 + 151) + (20 + 3000) + 3 * 90_000);
        for (int generator = 3; generator < 6; generator++) {
            int of = generator;
            Due.is("way(2999, " + of + ")", () -> house.way(2999, of), 29);
        }
    }

    private static void rowsOfTheLatest() {
        Due.about("Promise 14", "The row of a generator in a way of the latest run;");
        House house = new House();
        Edge.rows(house, 0, 30);
        Edge.query(house, 0, 0);
        house.number(0, 0, 29);
        house.number(1, 0, 0);
        Edge.ways("the last row and the first", house, new int[] {29, 0});
        // rows and a query that come after it change nothing in it
        house.table(0, 0);
        house.row(0, 7, 7, 7, 7);
        Edge.query(house, 0, 0, 0);
        Due.is("way(0, 0)", () -> house.way(0, 0), 29);
        Due.is("way(0, 1)", () -> house.way(0, 1), 0);
        Due.noSuch("way(0, 2)", () -> house.way(0, 2));
        Edge.ways("the next run", house, new int[] {0, 0, 0});
    }

    private static void waysInOrder() {
        Due.about("Promise 14", "ways are in order by the rows of generator 0, then of 1, and so on.");
        House house = new House();
        Edge.rows(house, 0, 5);
        Edge.rows(house, 1, 4);
        Edge.rows(house, 2, 3);
        Edge.query(house, 0, 1, 2);
        Edge.plan(house, 2, 1, 0);
        Due.is("run()", house::run, 60);
        for (int way = 0; way < 60; way++) {
            int at = way;
            Due.is("way(" + at + ", 0)", () -> house.way(at, 0), at / 12);
            Due.is("way(" + at + ", 1)", () -> house.way(at, 1), at / 3 % 4);
            Due.is("way(" + at + ", 2)", () -> house.way(at, 2), at % 3);
        }
        inOrderOfNumbers();
        sixInOrder();
    }

    /** By the rows' numbers, not by their values. */
    private static void inOrderOfNumbers() {
        House house = new House();
        for (int row = 0; row < 30; row++) {
            house.row(0, -row, row % 2 == 0 ? Edge.GREATEST : Edge.LEAST, row, 0);
        }
        Edge.query(house, 0, 0);
        house.equal(0, 2, 1, 2);
        Due.is("run()", house::run, 30);
        for (int way = 0; way < 30; way++) {
            int at = way;
            Due.is("way(" + at + ", 0)", () -> house.way(at, 0), at);
            Due.is("way(" + at + ", 1)", () -> house.way(at, 1), at);
        }
    }

    private static void sixInOrder() {
        House house = alike(2, 6);
        Due.is("run()", house::run, 64);
        for (int way = 0; way < 64; way++) {
            for (int generator = 0; generator < 6; generator++) {
                int at = way;
                int of = generator;
                Due.is("way(" + at + ", " + of + ")", () -> house.way(at, of), at >> 5 - of & 1);
            }
        }
    }

    private static void noSuchWay() {
        Due.about("Promise 14", "NoSuchElementException if there is no such way,");
        for (int rows : new int[] {0, 1, 2, 14}) {
            int ways = rows * rows * rows;
            House house = ran(rows);
            if (ways > 0) {
                Due.is("way(0, 2)", () -> house.way(0, 2), 0);
                Due.is("way(" + (ways - 1) + ", 0)", () -> house.way(ways - 1, 0), rows - 1);
            }
            for (int way : Edge.outside(ways)) {
                Refused.noSuch("way(" + way + ", 0) of " + ways, () -> ran(rows), on -> on.way(way, 0));
                Refused.noSuch("way(" + way + ", 2) of " + ways, () -> ran(rows), on -> on.way(way, 2));
            }
        }
        for (int way : Edge.outside(3000)) {
            Refused.noSuch("way(" + way + ", 0) of 3000", RunEdges::ranFar, on -> on.way(way, 0));
        }
        // a run of fewer ways takes those of a longer one away
        House house = ran(3);
        house.number(0, 0, 2);
        Due.is("run()", house::run, 9);
        Due.is("way(8, 0)", () -> house.way(8, 0), 2);
        Due.noSuch("way(9, 0)", () -> house.way(9, 0));
    }

    private static void noSuchGenerator() {
        Due.about("Promise 14", "or the run had no such generator.");
        for (int generators = 1; generators <= 6; generators++) {
            int there = generators;
            House house = ranOf(there);
            Due.is("way(1, 0) of " + there, () -> house.way(1, 0), there == 1 ? 1 : 0);
            Due.is("way(1, " + (there - 1) + ")", () -> house.way(1, there - 1), 1);
            for (int generator : Edge.outside(there)) {
                Refused.noSuch("way(0, " + generator + ") of " + there, () -> ranOf(there),
                        on -> on.way(0, generator));
            }
        }
        // the run's generators count, not those that there are now
        House house = ranOf(2);
        house.generator(4);
        Due.noSuch("way(0, 2)", () -> house.way(0, 2));
        house.clear();
        Due.is("way(3, 1)", () -> house.way(3, 1), 1);
        house.generator(4);
        Due.is("run()", house::run, 2);
        Due.noSuch("way(0, 1)", () -> house.way(0, 1));
        for (int generator : Edge.outside(1)) {
            Refused.noSuch("neither", () -> ranOf(1), on -> on.way(generator, generator));
        }
    }

    private static House ran(int rows) {
        House house = new House();
        Edge.rows(house, 4, rows);
        Edge.query(house, 4, 4, 4);
        house.run();
        return house;
    }

    private static House ranFar() {
        House house = joined(false);
        house.run();
        return house;
    }

    private static House ranOf(int generators) {
        House house = alike(2, generators);
        house.run();
        return house;
    }
}

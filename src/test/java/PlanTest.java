/** Promises 9 to 11: plan, method, size. */
public final class PlanTest {
    public static void main(String[] args) {
        smallestFirst();
        leastSumNotGreedy();
        tiesByNumbers();
        asThingsAreNow();
        sizesRoundUp();
        sizeOfEqual();
        sizeWithoutRows();
        greatestSize();
        indexByNumber();
        indexByEqual();
        firstConditionWins();
        methodTwo();
        ownColumnsTellNothing();
        refusals();
        Due.end();
    }

    private static void smallestFirst() {
        House house = new House();
        fill(house, 0, 5, 1);
        fill(house, 1, 3, 1);
        fill(house, 2, 4, 1);
        house.generator(0);
        house.generator(1);
        house.generator(2);
        plan(house, 1, 2, 0);
        sizes(house, 3, 12, 60);
        methods(house, 3, 3, 3);
    }

    /** Beginning with the smallest table costs more than with one that a condition joins to the rest. */
    private static void leastSumNotGreedy() {
        House house = new House();
        fill(house, 0, 2, 1);
        fill(house, 1, 10, 10);
        fill(house, 2, 10, 10);
        house.generator(0);
        house.generator(1);
        house.generator(2);
        house.equal(1, 0, 2, 0);
        // 0 1 2: 2 + 20 + 20; 1 2 0: 10 + 10 + 20
        plan(house, 1, 2, 0);
        sizes(house, 10, 10, 20);
    }

    private static void tiesByNumbers() {
        House house = new House();
        fill(house, 0, 4, 2);
        for (int generator = 0; generator < 6; generator++) {
            house.generator(0);
        }
        plan(house, 0, 1, 2, 3, 4, 5);
        house.equal(5, 0, 4, 0);
        // 4 + 8 + .. for a beginning with 4 and 5, in this order
        plan(house, 4, 5, 0, 1, 2, 3);
        house.clear();
        house.generator(0);
        house.generator(1);
        house.generator(0);
        house.generator(1);
        plan(house, 1, 0, 2, 3);
        sizes(house, 0, 0, 0, 0);
    }

    private static void asThingsAreNow() {
        House house = new House();
        fill(house, 0, 2, 2);
        fill(house, 1, 3, 3);
        house.generator(0);
        house.generator(1);
        house.run();
        plan(house, 0, 1);
        house.row(0, 5, 5, 5, 5);
        plan(house, 0, 1);
        house.row(0, 5, 5, 5, 5);
        plan(house, 1, 0);
        sizes(house, 3, 12);
        house.number(0, 0, 5);
        plan(house, 0, 1);
        // rounded up once for all of a beginning: 12 by 3, not 2 times 3
        sizes(house, 2, 4);
        methods(house, 3, 3);
        house.table(0, 1);
        sizes(house, 0, 0);
        methods(house, 1, 3);
        house.generator(0);
        plan(house, 0, 1, 2);
        house.clear();
        house.generator(1);
        plan(house, 0);
        sizes(house, 3);
    }

    private static void sizesRoundUp() {
        House house = new House();
        fill(house, 0, 10, 1);
        house.generator(0);
        int[] want = {4, 2, 1, 1};
        for (int size : want) {
            house.less(0, 0, 0, 1);
            sizes(house, size);
        }
        house.clear();
        fill(house, 1, 9, 4);
        house.generator(1);
        house.number(0, 0, 0);
        sizes(house, 3);
        house.less(0, 0, 0, 1);
        sizes(house, 1);
    }

    private static void sizeOfEqual() {
        House house = new House();
        fill(house, 0, 7, 3);
        fill(house, 1, 8, 5);
        house.generator(0);
        house.generator(1);
        house.equal(0, 0, 1, 0);
        sizes(house, 7, 12);
        house.clear();
        house.generator(0);
        house.generator(1);
        house.equal(1, 0, 0, 0);
        sizes(house, 7, 12);
        house.clear();
        house.generator(1);
        house.equal(0, 1, 0, 0);
        sizes(house, 2);
        house.clear();
        house.generator(1);
        house.equal(0, 1, 0, 1);
        sizes(house, 8);
    }

    private static void sizeWithoutRows() {
        House house = new House();
        fill(house, 0, 4, 4);
        house.generator(0);
        house.generator(1);
        house.equal(0, 0, 1, 0);
        house.number(1, 0, 3);
        plan(house, 1, 0);
        sizes(house, 0, 0);
        house.clear();
        house.generator(1);
        house.number(0, 2, 1);
        house.less(0, 2, 0, 2);
        sizes(house, 0);
    }

    private static void greatestSize() {
        House house = new House();
        fill(house, 0, 30, 1);
        for (int generator = 0; generator < 6; generator++) {
            house.generator(0);
        }
        plan(house, 0, 1, 2, 3, 4, 5);
        sizes(house, 30, 900, 27000, 810000, 24300000, 729000000);
        for (int condition = 0; condition < 12; condition++) {
            house.less(0, 0, 5, 0);
        }
        // 3 to the twelfth is 531441
        plan(house, 0, 5, 1, 2, 3, 4);
        sizes(house, 30, 1, 1, 2, 46, 1372);
    }

    private static void indexByNumber() {
        House house = new House();
        house.table(0, 2);
        fill(house, 0, 3, 3);
        house.generator(0);
        house.number(0, 0, 1);
        methods(house, 3);
        house.number(0, 1, 1);
        methods(house, 1);
    }

    private static void indexByEqual() {
        House house = new House();
        house.table(1, 4);
        fill(house, 0, 2, 2);
        fill(house, 1, 9, 3);
        house.generator(0);
        house.generator(1);
        house.equal(1, 2, 0, 0);
        plan(house, 0, 1);
        methods(house, 3, 1);
        house.clear();
        house.generator(0);
        house.generator(1);
        house.equal(0, 0, 1, 2);
        methods(house, 3, 1);
        house.clear();
        house.generator(0);
        house.generator(1);
        house.equal(0, 2, 1, 1);
        methods(house, 3, 2);
        // an index of a generator ahead is of no use for the one that comes
        house.clear();
        house.generator(1);
        house.generator(1);
        house.equal(0, 2, 1, 1);
        plan(house, 0, 1);
        methods(house, 3, 2);
    }

    /** Two conditions that tell a value: looks() shows by which of them it went. */
    private static void firstConditionWins() {
        House house = new House();
        house.table(1, 3);
        house.row(0, 5, 6, 0, 0);
        for (int row = 0; row < 6; row++) {
            house.row(1, row < 4 ? 5 : 0, row < 3 ? 6 : 1, row < 2 ? 5 : 1, row);
        }
        lookedAfter(house, 1 + 4, () -> {
            house.equal(0, 0, 1, 0);
            house.number(1, 1, 6);
        });
        lookedAfter(house, 1 + 3, () -> {
            house.number(1, 1, 6);
            house.equal(0, 0, 1, 0);
        });
        // an index is gone by ahead of an earlier EQUAL without one
        lookedAfter(house, 1 + 3, () -> {
            house.equal(0, 0, 1, 2);
            house.equal(1, 1, 0, 1);
        });
        // a NUMBER without an index tells nothing for methods 1 and 2
        lookedAfter(house, 1 + 6 + 2, () -> {
            house.number(1, 3, 0);
            house.equal(0, 0, 1, 2);
        });
        lookedAfter(house, 1 + 6 + 2, () -> {
            house.equal(0, 0, 1, 2);
            house.equal(0, 0, 1, 3);
        });
        lookedAfter(house, 1 + 6 + 1, () -> {
            house.equal(0, 0, 1, 3);
            house.equal(0, 0, 1, 2);
        });
        lookedAfter(house, 1 + 6, () -> house.number(1, 3, 0));
        lookedAfter(house, 1 + 6, () -> house.less(0, 0, 1, 0));
    }

    private static void lookedAfter(House house, int want, Due.Act conditions) {
        house.clear();
        house.generator(0);
        house.generator(1);
        conditions.go();
        plan(house, 0, 1);
        house.run();
        Due.is("looks by the first condition", house::looks, want);
    }

    private static void methodTwo() {
        House house = new House();
        fill(house, 0, 2, 2);
        fill(house, 1, 3, 3);
        fill(house, 2, 4, 4);
        house.generator(0);
        house.generator(1);
        house.generator(2);
        house.equal(2, 0, 1, 0);
        house.equal(1, 0, 0, 0);
        plan(house, 0, 1, 2);
        methods(house, 3, 2, 2);
        house.clear();
        house.generator(0);
        house.generator(1);
        house.less(0, 0, 1, 0);
        methods(house, 3, 3);
    }

    private static void ownColumnsTellNothing() {
        House house = new House();
        house.table(0, 15);
        fill(house, 0, 4, 2);
        house.generator(0);
        house.generator(0);
        house.equal(0, 0, 0, 1);
        house.equal(1, 2, 1, 2);
        house.less(0, 1, 1, 1);
        methods(house, 3, 3);
    }

    private static void refusals() {
        House house = new House();
        fill(house, 0, 2, 2);
        for (int generators = 0; generators <= 6; generators++) {
            for (int place : new int[] {-1, generators, generators + 1, 6, Integer.MIN_VALUE, Integer.MAX_VALUE}) {
                Due.noSuch("plan at " + place, () -> house.plan(place));
                Due.noSuch("method at " + place, () -> house.method(place));
                Due.noSuch("size at " + place, () -> house.size(place));
            }
            if (generators < 6) {
                int at = generators;
                Due.is("nothing changed", () -> house.generator(0), at);
            }
        }
        Due.is("the last place", () -> house.size(5), 64);
    }

    /** Rows whose column 0 and 2 have some unlike values and whose columns 1 and 3 have one. */
    private static void fill(House house, int table, int rows, int spread) {
        for (int row = 0; row < rows; row++) {
            house.row(table, row % spread, 0, row % spread, 0);
        }
    }

    private static void plan(House house, int... want) {
        for (int place = 0; place < want.length; place++) {
            int at = place;
            Due.is("plan at " + place, () -> house.plan(at), want[place]);
        }
        Due.noSuch("plan beyond", () -> house.plan(want.length));
    }

    private static void sizes(House house, int... want) {
        for (int place = 0; place < want.length; place++) {
            int at = place;
            Due.is("size at " + place, () -> house.size(at), want[place]);
        }
    }

    private static void methods(House house, int... want) {
        for (int place = 0; place < want.length; place++) {
            int at = place;
            Due.is("method at " + place, () -> house.method(at), want[place]);
        }
    }
}

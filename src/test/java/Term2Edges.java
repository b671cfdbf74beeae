/** Term 2: sizes, and the plan that has the least sum of them. */
final class Term2Edges {
    private Term2Edges() {
    }

    static void all() {
        oneTimesTheOther();
        greatestSizes();
        conditionsAmongThem();
        roundedUp();
        equalDivides();
        numberDivides();
        lessDivides();
        leastSum();
        beginnings();
        firstByNumbers();
        firstOfMany();
    }

    private static void oneTimesTheOther() {
        Due.about("Term 2", "The SIZE of some generators: their tables' numbers of rows, one times the other;");
        House house = new House();
        house.generator(0);
        Edge.sizes(house, 0);
        for (int rows = 1; rows <= 30; rows++) {
            house.row(0, rows, rows, rows, rows);
            Edge.sizes(house, rows);
        }
        house.generator(0);
        Edge.sizes(house, 30, 900);
        Edge.rows(house, 1, 1);
        house.generator(1);
        Edge.sizes(house, 1, 30, 900);
        // an empty one makes every beginning that it is in empty
        house.generator(2);
        Edge.sizes(house, 0, 0, 0, 0);
    }

    private static void greatestSizes() {
        Due.about("Term 2", "one times the other;");
        House house = new House();
        Edge.alike(house, 0, 30, 1);
        Edge.alike(house, 1, 29, 1);
        Edge.query(house, 0, 0, 0, 0, 0, 0);
        Edge.plan(house, 0, 1, 2, 3, 4, 5);
        Edge.sizes(house, 30, 900, 27_000, 810_000, 24_300_000, 729_000_000);
        Edge.query(house, 0, 0, 0, 0, 0, 1);
        Edge.plan(house, 5, 0, 1, 2, 3, 4);
        Edge.sizes(house, 29, 870, 26_100, 783_000, 23_490_000, 704_700_000);
    }

    private static void conditionsAmongThem() {
        Due.about("Term 2", "then, for each condition by numbers whose generators are all among them,");
        House house = new House();
        Edge.alike(house, 0, 3, 1);
        Edge.alike(house, 1, 4, 1);
        Edge.alike(house, 2, 5, 1);
        Edge.query(house, 0, 1, 2);
        Edge.sizes(house, 3, 12, 60);
        house.less(0, 0, 1, 0);
        Edge.plan(house, 0, 1, 2);
        Edge.sizes(house, 3, 4, 20);
        Edge.query(house, 0, 1, 2);
        house.less(2, 0, 0, 0);
        Edge.plan(house, 0, 2, 1);
        Edge.sizes(house, 3, 5, 20);
        Edge.query(house, 0, 1, 2);
        house.less(1, 0, 2, 0);
        // 1 2 0: 4 + 7 + 20; 0 1 2: 3 + 12 + 20
        Edge.plan(house, 1, 2, 0);
        Edge.sizes(house, 4, 7, 20);
        house.less(0, 0, 1, 0);
        house.less(0, 0, 2, 0);
        Edge.plan(house, 0, 1, 2);
        Edge.sizes(house, 3, 4, 3);
        // of one generator: among them as soon as it is
        house.less(2, 0, 2, 1);
        // 2 0 1: 2 + 2 + 1
        Edge.plan(house, 2, 0, 1);
        Edge.sizes(house, 2, 2, 1);
    }

    private static void roundedUp() {
        Due.about("Term 2", "divided by (and rounded up):");
        House house = new House();
        house.generator(0);
        house.less(0, 0, 0, 0);
        Edge.sizes(house, 0);
        for (int rows = 1; rows <= 30; rows++) {
            house.row(0, rows % 7, 0, 0, 0);
            Edge.sizes(house, (rows + 2) / 3);
        }
        // at each condition anew, down to 1 and not to 0
        int[] sizes = {4, 2, 1, 1, 1, 1, 1, 1, 1, 1, 1};
        for (int size : sizes) {
            house.less(0, 0, 0, 0);
            Edge.sizes(house, size);
        }
        Edge.query(house, 0, 0, 0, 0, 0, 0);
        house.number(0, 0, 1);
        Edge.plan(house, 0, 1, 2, 3, 4, 5);
        Edge.sizes(house, 5, 129, 3858, 115_715, 3_471_429, 104_142_858);
        for (int condition = 1; condition < 12; condition++) {
            house.less(0, 0, 0, 0);
        }
        // 7 times 3 to the eleventh is 1240029
        Edge.sizes(house, 1, 1, 1, 1, 20, 588);
    }

    private static void equalDivides() {
        Due.about("Term 2", "EQUAL the greater one of both SPREADS,");
        int[] spreads = {1, 2, 3, 29, 30};
        for (int one : spreads) {
            for (int other : spreads) {
                House house = new House();
                Edge.spread(house, 0, 30, one);
                Edge.spread(house, 1, 30, other);
                int greater = Math.max(one, other);
                Edge.query(house, 0, 1);
                house.equal(0, 1, 1, 3);
                Edge.sizes(house, 30, (900 + greater - 1) / greater);
                Edge.query(house, 0, 1);
                house.equal(1, 2, 0, 0);
                Edge.sizes(house, 30, (900 + greater - 1) / greater);
            }
        }
        // of one generator: the greater one of two columns, or of one column twice
        House house = new House();
        for (int row = 0; row < 30; row++) {
            house.row(0, row % 4, row % 9, 0, row);
        }
        int[][] columns = {{0, 1, 4}, {1, 0, 4}, {0, 0, 8}, {2, 2, 30}, {2, 3, 1}, {3, 3, 1}, {0, 2, 8}};
        for (int[] column : columns) {
            Edge.query(house, 0);
            house.equal(0, column[0], 0, column[1]);
            Edge.sizes(house, column[2]);
        }
    }

    private static void numberDivides() {
        Due.about("Term 2", "NUMBER the SPREAD,");
        for (int spread = 1; spread <= 30; spread++) {
            House house = new House();
            Edge.spread(house, 0, 30, spread);
            for (int number : new int[] {0, spread, Edge.LEAST, Edge.GREATEST}) {
                Edge.query(house, 0);
                house.number(0, spread % 4, number);
                // whether a row has the number or none does
                Edge.sizes(house, (30 + spread - 1) / spread);
            }
        }
    }

    private static void lessDivides() {
        Due.about("Term 2", "LESS 3.");
        for (int spread : new int[] {1, 2, 3, 4, 30}) {
            House house = new House();
            Edge.spread(house, 0, 30, spread);
            Edge.query(house, 0);
            house.less(0, 0, 0, 1);
            Edge.sizes(house, 10);
            Edge.query(house, 0, 0);
            house.less(1, 0, 0, 3);
            Edge.sizes(house, 30, 300);
        }
    }

    /** Two orders whose sums differ by one, are the same, and differ by one the other way. */
    private static void leastSum() {
        Due.about("Term 2", "The PLAN is that order of the generators in which the SIZES of its beginnings"
                + " (of the first one, of the first two, and so on to all) have the least sum;");
        // 1 2 0: 4 + 5 + 10; 0 1 2: 2 + 8 + 10
        Edge.plan(twoAndChain(5), 1, 2, 0);
        Edge.sizes(twoAndChain(5), 4, 5, 10);
        // 1 2 0: 4 + 7 + 14; 0 1 2: 2 + 8 + 14
        Edge.plan(twoAndChain(7), 0, 1, 2);
        Edge.sizes(twoAndChain(7), 2, 8, 14);
        // the same with other numbers
        Edge.plan(chainAndTwo(5), 0, 1, 2);
        Edge.plan(chainAndTwo(7), 2, 0, 1);
        Edge.sizes(chainAndTwo(7), 2, 8, 14);
    }

    /** A table of two rows, and one of four that a condition joins to one of as many rows as are told. */
    private static House twoAndChain(int rows) {
        House house = new House();
        fillTwoAndChain(house, rows);
        Edge.query(house, 0, 1, 2);
        house.equal(1, 0, 2, 0);
        return house;
    }

    private static House chainAndTwo(int rows) {
        House house = new House();
        fillTwoAndChain(house, rows);
        Edge.query(house, 1, 2, 0);
        house.equal(0, 0, 1, 0);
        return house;
    }

    private static void fillTwoAndChain(House house, int rows) {
        Edge.alike(house, 0, 2, 1);
        Edge.spread(house, 1, 4, 4);
        Edge.spread(house, 2, rows, 4);
    }

    private static void beginnings() {
        Due.about("Term 2", "(of the first one, of the first two, and so on to all)");
        House house = new House();
        Edge.alike(house, 0, 3, 1);
        Edge.alike(house, 1, 2, 1);
        Edge.query(house, 0);
        Edge.plan(house, 0);
        Edge.sizes(house, 3);
        // the first one counts: 2 + 6 against 3 + 6
        Edge.query(house, 0, 1);
        Edge.plan(house, 1, 0);
        Edge.sizes(house, 2, 6);
        // the first two count: 3 + 3 + 6 is less than 2 + 6 + 6 and than 3 + 6 + 6
        Edge.query(house, 1, 0, 0);
        house.less(1, 0, 2, 0);
        Edge.plan(house, 1, 2, 0);
        Edge.sizes(house, 3, 3, 6);
        Edge.query(house, 0, 0, 0, 0, 0, 1);
        Edge.plan(house, 5, 0, 1, 2, 3, 4);
        Edge.sizes(house, 2, 6, 18, 54, 162, 486);
    }

    private static void firstByNumbers() {
        Due.about("Term 2", "of several the one that is first by its numbers.");
        // 0 1 2: 2 + 8 + 12; 1 2 0: 4 + 6 + 12
        Edge.plan(twoAndChain(6), 0, 1, 2);
        Edge.sizes(twoAndChain(6), 2, 8, 12);
        Edge.plan(chainAndTwo(6), 0, 1, 2);
        Edge.sizes(chainAndTwo(6), 4, 6, 12);
        for (int generators = 1; generators <= 6; generators++) {
            for (int rows : new int[] {0, 1, 2, 30}) {
                House house = new House();
                Edge.alike(house, 3, rows, 1);
                int[] inOrder = new int[generators];
                for (int generator = 0; generator < generators; generator++) {
                    house.generator(3);
                    inOrder[generator] = generator;
                }
                Edge.plan(house, inOrder);
            }
        }
    }

    private static void firstOfMany() {
        Due.about("Term 2", "the one that is first by its numbers.");
        House house = new House();
        for (int table = 0; table <= 5; table++) {
            Edge.alike(house, table, 1 + table, 1);
        }
        // behind an empty one all orders have the sum 0
        for (int table = 0; table <= 5; table++) {
            house.table(table, 0);
            Edge.query(house, 5, 4, 3, 2, 1, 0);
            Edge.plan(house, emptyFirst(5 - table));
            Edge.alike(house, table, 1 + table, 1);
        }
        house.table(1, 0);
        house.table(3, 0);
        Edge.plan(house, 2, 0, 1, 3, 4, 5);
        // of one row: neither is ahead of the other by its size
        Edge.query(house, 5, 0, 4, 0);
        Edge.plan(house, 1, 3, 2, 0);
        // the same sum from the last place on
        Edge.query(house, 0, 5, 5, 0);
        house.less(1, 0, 0, 0);
        house.less(2, 0, 3, 0);
        Edge.plan(house, 0, 3, 1, 2);
        Edge.sizes(house, 1, 1, 2, 4);
    }

    private static int[] emptyFirst(int generator) {
        int[] order = new int[6];
        order[0] = generator;
        int place = 1;
        for (int other = 0; other < 6; other++) {
            if (other != generator) {
                order[place] = other;
                place++;
            }
        }
        return order;
    }
}

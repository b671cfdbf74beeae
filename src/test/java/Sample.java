/** Houses in the states in which calls are refused. */
final class Sample {
    private Sample() {
    }

    /** Two tables joined, a run, and changes after it, so that the run and the present differ. */
    static House joined() {
        House house = new House();
        house.table(0, 1);
        house.table(5, 10);
        house.row(0, 1, 2, 3, 4);
        house.row(0, 1, 5, Edge.LEAST, Edge.GREATEST);
        house.row(0, 7, 1, 1, 1);
        house.row(5, 1, 1, 2, 1);
        house.row(5, 2, Edge.GREATEST, Edge.LEAST, 1);
        house.generator(5);
        house.generator(0);
        house.equal(0, 0, 1, 0);
        house.run();
        house.row(0, 1, 9, 9, 9);
        house.less(1, 1, 0, 2);
        return house;
    }

    /** A table with 30 rows, six generators, twelve conditions and a run. */
    static House full() {
        House house = new House();
        house.table(3, 4);
        Edge.spread(house, 3, 30, 7);
        house.row(0, 1, 2, 3, 4);
        house.row(2, 5, 2, 1, 1);
        house.row(2, 6, 2, 0, 1);
        Edge.generators(house, 3, 2, 3, 0, 2, 3);
        for (int condition = 0; condition < 4; condition++) {
            house.equal(0, condition, 2, condition);
            house.number(5, condition, 1);
            house.less(3, 0, 1, 0);
        }
        house.run();
        return house;
    }

    /** As many generators as are told, of tables with and without rows, and no run. */
    static House ofGenerators(int generators) {
        House house = new House();
        house.table(1, 3);
        Edge.spread(house, 1, 4, 3);
        Edge.spread(house, 2, 3, 2);
        for (int generator = 0; generator < generators; generator++) {
            house.generator(generator % 4 == 3 ? 0 : 1 + generator % 2);
        }
        return house;
    }

    /** A run before, and after it a query whose run was refused. */
    static House ranTooFar() {
        House house = new House();
        Edge.rows(house, 1, 20);
        Edge.generators(house, 1, 1);
        house.less(0, 0, 1, 0);
        house.run();
        house.generator(1);
        house.generator(1);
        Due.unsupported("more than 3000 choices", house::run);
        return house;
    }
}

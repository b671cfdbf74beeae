/** Term 3: how a run goes, the methods, and what is looked at. */
final class Term3Edges {
    private Term3Edges() {
    }

    static void all() {
        byThePlan();
        oneChoiceAtFirst();
        oneByEqual();
        oneByAheadInThePlan();
        oneByNumber();
        two();
        three();
        firstConditionOfMethodOne();
        firstConditionOfMethodTwo();
        forEachChoice();
        rowsThatHaveTheValue();
        allRowsByThree();
        onceMoreByTwo();
        onceMoreWithoutChoice();
        conditionsThatAreThereNow();
        constant();
    }

    private static void byThePlan() {
        Due.about("Term 3", "A RUN goes by the plan,");
        House house = new House();
        Edge.rows(house, 0, 30);
        Edge.rows(house, 1, 2);
        Edge.query(house, 0, 1);
        Edge.plan(house, 1, 0);
        Edge.run("the second generator first", house, 60, 2 + 2 * 30);
        Edge.query(house, 1, 0);
        Edge.plan(house, 0, 1);
        Edge.run("the first generator first", house, 60, 2 + 2 * 30);
        Edge.query(house, 0, 0, 1);
        house.equal(0, 0, 1, 0);
        // 0 1 2: 30 + 30 + 60; 2 0 1: 2 + 60 + 60; so the small one comes last
        Edge.plan(house, 0, 1, 2);
        Edge.run("the small one last", house, 60, 30 + (30 + 30) + 30 * 2);
    }

    private static void oneChoiceAtFirst() {
        Due.about("Term 3", "from one CHOICE of no rows.");
        House house = new House();
        house.generator(0);
        Edge.run("0 rows", house, 0, 0);
        for (int rows = 1; rows <= 30; rows++) {
            house.row(0, 1, 1, 1, 1);
            Edge.run(rows + " rows", house, rows, rows);
        }
        house.clear();
        Edge.run("no generator", house, 0, 0);
    }

    private static void oneByEqual() {
        Due.about("Term 3", "At each generator it has a METHOD: 1 if there is an EQUAL of a column of it that has an index"
                + " and a column of a generator ahead of it in the plan,");
        for (int bits = 0; bits <= 15; bits++) {
            House house = twoAndNine(0, bits);
            for (int column = 0; column <= 3; column++) {
                int method = (bits >> column & 1) != 0 ? 1 : 2;
                Edge.query(house, 0, 1);
                house.equal(0, 0, 1, column);
                Edge.methods(house, 3, method);
                Edge.query(house, 0, 1);
                house.equal(1, column, 0, 0);
                Edge.methods(house, 3, method);
            }
        }
        // an EQUAL, not a LESS, and not one of its own columns
        House house = twoAndNine(15, 15);
        Edge.query(house, 0, 1);
        house.less(0, 0, 1, 0);
        house.less(1, 0, 0, 0);
        house.equal(1, 0, 1, 1);
        house.equal(0, 2, 0, 2);
        Edge.methods(house, 3, 3);
        house.equal(0, 2, 1, 2);
        Edge.methods(house, 3, 1);
    }

    private static void oneByAheadInThePlan() {
        Due.about("Term 3", "and a column of a generator ahead of it in the plan,");
        // an index of the one ahead is of no use for it, nor for the one that comes
        House house = twoAndNine(15, 0);
        Edge.query(house, 0, 1);
        house.equal(0, 0, 1, 0);
        Edge.plan(house, 0, 1);
        Edge.methods(house, 3, 2);
        // ahead in the plan, not by the numbers
        house = twoAndNine(0, 1);
        Edge.query(house, 1, 0);
        house.equal(0, 0, 1, 0);
        Edge.plan(house, 1, 0);
        Edge.methods(house, 3, 1);
        // of three, the last has an EQUAL with the first alone
        house = twoAndNineAlike(0, 8);
        Edge.alike(house, 2, 3, 1);
        Edge.query(house, 0, 2, 1);
        house.equal(2, 3, 0, 1);
        Edge.plan(house, 0, 1, 2);
        Edge.methods(house, 3, 3, 1);
        // of three, the second has an EQUAL with the last alone
        house = twoAndNine(0, 8);
        Edge.query(house, 0, 1, 1);
        house.equal(1, 3, 2, 0);
        house.less(0, 0, 1, 1);
        Edge.plan(house, 0, 1, 2);
        Edge.methods(house, 3, 3, 2);
    }

    private static void oneByNumber() {
        Due.about("Term 3", "or a NUMBER of a column of it that has one;");
        for (int bits = 0; bits <= 15; bits++) {
            House house = twoAndNineAlike(bits, 15 - bits);
            for (int column = 0; column <= 3; column++) {
                boolean has = (bits >> column & 1) != 0;
                Edge.query(house, 0, 1);
                house.number(0, column, Edge.LEAST);
                Edge.methods(house, has ? 1 : 3, 3);
                Edge.query(house, 0, 1);
                house.number(1, column, Edge.GREATEST);
                Edge.plan(house, 0, 1);
                Edge.methods(house, 3, has ? 3 : 1);
            }
        }
    }

    private static void two() {
        Due.about("Term 3", "else 2 if there is an EQUAL of a column of it and a column of a generator ahead of it;");
        House house = twoAndNineAlike(0, 4);
        for (int column = 0; column <= 3; column++) {
            Edge.query(house, 0, 1);
            house.equal(0, column, 1, 1);
            Edge.methods(house, 3, 2);
            Edge.query(house, 0, 1);
            house.equal(1, 3, 0, column);
            Edge.methods(house, 3, 2);
            // an index is ahead of it
            house.number(1, 2, 0);
            Edge.methods(house, 3, 1);
        }
        Edge.query(house, 1, 1, 0);
        house.equal(1, 0, 0, 1);
        Edge.plan(house, 2, 0, 1);
        Edge.methods(house, 3, 3, 2);
    }

    private static void three() {
        Due.about("Term 3", "else 3.");
        House house = twoAndNine(0, 0);
        Edge.query(house, 0, 1);
        Edge.methods(house, 3, 3);
        house.number(1, 0, 1);
        house.number(0, 3, 1);
        house.less(0, 0, 1, 1);
        house.equal(1, 1, 1, 2);
        house.equal(0, 1, 0, 1);
        Edge.methods(house, 3, 3);
        house.table(0, 0);
        house.table(1, 0);
        Edge.methods(house, 3, 3);
        House sixth = new House();
        Edge.generators(sixth, 0, 1, 2, 3, 4, 5);
        Edge.methods(sixth, 3, 3, 3, 3, 3, 3);
    }

    /** Tables of two and of nine unlike rows: the first comes first in a plan. */
    private static House twoAndNine(int bits, int otherBits) {
        House house = new House();
        house.table(0, bits);
        house.table(1, otherBits);
        Edge.spread(house, 0, 2, 2);
        Edge.spread(house, 1, 9, 9);
        return house;
    }

    /** No condition makes the second table smaller than the first. */
    private static House twoAndNineAlike(int bits, int otherBits) {
        House house = new House();
        house.table(0, bits);
        house.table(1, otherBits);
        Edge.spread(house, 0, 2, 2);
        Edge.alike(house, 1, 9, 1);
        return house;
    }

    /** Each of the two conditions tells a value that another number of rows has. */
    private static void firstConditionOfMethodOne() {
        Due.about("Term 3", "By 1 and 2 it goes by the first such condition.");
        Refused.Call four = on -> on.equal(0, 0, 1, 0);
        Refused.Call three = on -> on.number(1, 1, 6);
        Refused.Call two = on -> on.equal(1, 2, 0, 2);
        Refused.Call none = on -> on.number(1, 2, Edge.LEAST);
        goesBy("EQUAL, then NUMBER", 3, 1 + 4, four, three);
        goesBy("NUMBER, then EQUAL", 3, 1 + 3, three, four);
        goesBy("EQUAL, then EQUAL", 5, 1 + 4, four, two);
        goesBy("the other EQUAL first", 5, 1 + 2, two, four);
        goesBy("NUMBER, then NUMBER", 6, 1 + 3, three, none);
        goesBy("the other NUMBER first", 6, 1, none, three);
        // ahead of it only such as have no index, and a LESS
        Refused.Call less = on -> on.less(0, 0, 1, 0);
        goesBy("an EQUAL without an index is passed by", 2, 1 + 3, four, three);
        goesBy("a NUMBER without an index is passed by", 1, 1 + 4, three, four);
        goesBy("the twelfth", 4, 1 + 2, less, less, less, less, less, less, less, less, less, four, three, two);
        goesBy("the first of twelve", 7, 1 + 2, two, four, three, four, three, four, three, less, less, less, less, none);
    }

    private static void firstConditionOfMethodTwo() {
        Due.about("Term 3", "By 1 and 2 it goes by the first such condition.");
        Refused.Call four = on -> on.equal(0, 0, 1, 0);
        Refused.Call two = on -> on.equal(1, 2, 0, 2);
        Refused.Call number = on -> on.number(1, 1, 6);
        Refused.Call less = on -> on.less(0, 0, 1, 0);
        Refused.Call own = on -> on.equal(1, 3, 1, 3);
        goesBy("EQUAL, then EQUAL", 0, 1 + 6 + 4, four, two);
        goesBy("the other EQUAL first", 0, 1 + 6 + 2, two, four);
        goesBy("a NUMBER is passed by", 8, 1 + 6 + 2, number, two, four);
        goesBy("a LESS is passed by", 8, 1 + 6 + 4, less, four, two);
        goesBy("an EQUAL of its own is passed by", 8, 1 + 6 + 2, own, two, four);
        goesBy("the twelfth", 0, 1 + 6 + 2, less, own, less, own, less, number, less, own, less, own, less, two);
    }

    /** Of the second generator's six rows 4, 3 and 2 have the values told for columns 0, 1 and 2. */
    private static void goesBy(String what, int bits, int looks, Refused.Call... conditions) {
        House house = new House();
        house.table(1, bits);
        house.row(0, 5, 6, 7, 0);
        for (int row = 0; row < 6; row++) {
            house.row(1, row < 4 ? 5 : 9, row > 2 ? 6 : 9, row % 3 == 0 ? 7 : 9, row);
        }
        Edge.query(house, 0, 1);
        for (Refused.Call condition : conditions) {
            condition.on(house);
        }
        Edge.plan(house, 0, 1);
        house.run();
        Due.is(what + ": looks()", house::looks, looks);
    }

    private static void forEachChoice() {
        Due.about("Term 3", "LOOKED AT are, for each choice there is:");
        for (int method = 1; method <= 3; method++) {
            for (int choices = 0; choices <= 5; choices++) {
                House house = joinedBy(method, 5, choices, 30, 7);
                int each = method == 3 ? 30 : 7;
                Edge.methods(house, 3, method);
                Edge.run(choices + " choices by " + method, house, choices * each,
                        5 + (method == 2 ? 30 : 0) + choices * each);
            }
        }
    }

    private static void rowsThatHaveTheValue() {
        Due.about("Term 3", "by 1 and 2 the generator's rows that have the value that the condition tells,");
        for (int method = 1; method <= 2; method++) {
            for (int having = 0; having <= 30; having++) {
                House house = joinedBy(method, 2, 2, 30, having);
                Edge.methods(house, 3, method);
                Edge.run(having + " rows by " + method, house, 2 * having, 2 + (method == 2 ? 30 : 0) + 2 * having);
            }
        }
        // also those with which another condition does not hold
        House house = joinedBy(1, 2, 2, 30, 10);
        house.less(1, 1, 1, 1);
        Edge.run("none holds by 1", house, 0, 2 + 2 * 10);
        house = joinedBy(2, 2, 2, 30, 10);
        house.less(1, 1, 1, 1);
        Edge.run("none holds by 2", house, 0, 2 + 30 + 2 * 10);
        // a NUMBER tells its value for the first generator too
        for (int value : Edge.INTS) {
            house = new House();
            house.table(0, 2);
            Edge.alike(house, 0, 4, value);
            Edge.alike(house, 0, 3, 12345);
            Edge.query(house, 0);
            house.number(0, 1, value);
            Edge.run("NUMBER " + value, house, 4, 4);
        }
    }

    private static void allRowsByThree() {
        Due.about("Term 3", "by 3 all of its rows;");
        for (int rows = 2; rows <= 30; rows++) {
            House house = joinedBy(3, 2, 2, rows, 1);
            Edge.run(rows + " rows", house, 2 * rows, 2 + 2 * rows);
            // also those with which no condition holds
            house.less(0, 2, 1, 2);
            Edge.run("none of " + rows + " rows holds", house, 0, 2 + 2 * rows);
        }
    }

    private static void onceMoreByTwo() {
        Due.about("Term 3", "by 2 all its rows once more, ahead");
        for (int rows = 2; rows <= 30; rows++) {
            Edge.run(rows + " rows by 2", joinedBy(2, 2, 2, rows, 1), 2, 2 + rows + 2);
            Edge.run(rows + " rows by 1", joinedBy(1, 2, 2, rows, 1), 2, 2 + 2);
        }
        // once for each generator that is gone to so, and not for each choice
        House house = new House();
        Edge.spread(house, 0, 4, 4);
        Edge.query(house, 0, 0, 0, 0, 0, 0);
        for (int generator = 1; generator < 6; generator++) {
            house.equal(generator - 1, 0, generator, 0);
        }
        Edge.run("five by 2", house, 4, 4 + 5 * (4 + 4));
    }

    private static void onceMoreWithoutChoice() {
        Due.about("Term 3", "(also if there is no choice).");
        for (int rows = 2; rows <= 30; rows++) {
            Edge.run(rows + " rows by 2", joinedBy(2, 2, 0, rows, 1), 0, 2 + rows);
            Edge.run(rows + " rows by 1", joinedBy(1, 2, 0, rows, 1), 0, 2);
            Edge.run(rows + " rows by 3", joinedBy(3, 2, 0, rows, 1), 0, 2);
        }
        // the first one's table is empty
        House house = new House();
        Edge.spread(house, 0, 5, 5);
        Edge.query(house, 0, 1, 0);
        house.equal(0, 0, 1, 0);
        Edge.plan(house, 1, 0, 2);
        Edge.methods(house, 3, 2, 3);
        Edge.run("one by 2", house, 0, 5);
        house.equal(0, 0, 2, 1);
        Edge.run("two by 2", house, 0, 5 + 5);
        house.table(0, 15);
        Edge.run("no rows at all", house, 0, 0);
    }

    /**
     * A first generator some of whose rows become choices, then a second one by the method, in some of
     * whose rows column 0 has the value that the first tells: 1 in every row.
     */
    private static House joinedBy(int method, int rows, int choices, int otherRows, int having) {
        House house = new House();
        house.table(1, method == 1 ? 1 : 0);
        for (int row = 0; row < rows; row++) {
            house.row(0, 1, row < choices ? 0 : 1, 1, 0);
        }
        for (int row = 0; row < otherRows; row++) {
            house.row(1, row < having ? 1 : 2, 0, 0, 0);
        }
        Edge.query(house, 0, 1);
        house.less(0, 1, 0, 0);
        if (method != 3) {
            house.equal(0, 0, 1, 0);
        }
        return house;
    }

    private static void conditionsThatAreThereNow() {
        Due.about("Term 3", "Each row with which all conditions hold whose generators are there now"
                + " makes a choice for the next one.");
        House house = new House();
        for (int row = 0; row < 4; row++) {
            house.row(0, row, 1, 2, 3);
        }
        Edge.alike(house, 1, 5, 2);
        Edge.alike(house, 2, 6, 2);
        Edge.query(house, 0, 1, 2);
        Edge.plan(house, 0, 1, 2);
        Edge.run("no condition", house, 120, 4 + 4 * 5 + 20 * 6);
        // of the first alone: row 0 makes the only choice
        house.less(0, 0, 0, 1);
        Edge.plan(house, 0, 1, 2);
        Edge.run("at the first", house, 30, 4 + 1 * 5 + 5 * 6);
        // of the first and the second: it waits for the second
        house.less(1, 0, 0, 1);
        Edge.plan(house, 0, 1, 2);
        Edge.run("at the second", house, 0, 4 + 1 * 5 + 0);
        Edge.query(house, 0, 1, 2);
        house.less(0, 0, 1, 0);
        Edge.plan(house, 0, 1, 2);
        Edge.run("at the second, which two choices pass", house, 60, 4 + 4 * 5 + 10 * 6);
        // of the first and the last: it waits for the last
        Edge.query(house, 0, 1, 2);
        house.less(0, 0, 0, 1);
        house.less(1, 0, 1, 0);
        house.less(2, 0, 0, 0);
        // 0 1 2: 2 + 3 + 5; 0 2 1: 2 + 3 + 5
        Edge.plan(house, 0, 1, 2);
        Edge.run("none passes the second", house, 0, 4 + 1 * 5 + 0);
        // all of twelve conditions, though the method goes by one
        Edge.query(house, 0, 0);
        for (int condition = 0; condition < 11; condition++) {
            house.equal(0, 0, 1, 0);
        }
        Edge.run("eleven hold", house, 4, 4 + 4 + 4);
        house.less(0, 1, 1, 0);
        Edge.run("the twelfth holds with two rows", house, 2, 4 + 4 + 4);
    }

    private static void constant() {
        Due.about("Term 3", "The constants: `NONE = -1`: There is none.");
        Due.is("NONE", () -> JoinHouse.NONE, -1);
    }
}

/** Promises 9 to 11: plan, method, size. */
final class PlanEdges {
    private interface Ask {
        int of(House house, int place);
    }

    private PlanEdges() {
    }

    static void all() {
        generatorAtPlace();
        asTheyAreNow();
        planPlaces();
        methodThere();
        methodPlaces();
        sizeThere();
        sizePlaces();
    }

    private static void generatorAtPlace() {
        Due.about("Promise 9", "The generator at a place of the plan");
        House house = new House();
        for (int table = 0; table <= 5; table++) {
            Edge.alike(house, table, 6 - table, 1);
        }
        Edge.query(house, 0);
        Edge.plan(house, 0);
        Edge.query(house, 0, 1, 2, 3, 4, 5);
        Edge.plan(house, 5, 4, 3, 2, 1, 0);
        Edge.query(house, 3, 0, 5, 1, 4, 2);
        Edge.plan(house, 2, 4, 0, 5, 3, 1);
    }

    private static void asTheyAreNow() {
        Due.about("Promise 9", "(as the tables and the query are now).");
        House house = new House();
        Edge.alike(house, 0, 2, 1);
        Edge.alike(house, 1, 3, 1);
        Edge.query(house, 0, 1);
        house.run();
        Edge.plan(house, 0, 1);
        house.row(0, 1, 1, 1, 1);
        Edge.plan(house, 0, 1);
        house.row(0, 1, 1, 1, 1);
        Edge.plan(house, 1, 0);
        house.less(0, 0, 0, 1);
        Edge.plan(house, 0, 1);
        house.less(1, 0, 1, 1);
        Edge.plan(house, 1, 0);
        house.number(0, 0, 9);
        Edge.plan(house, 1, 0);
        house.row(0, 2, 1, 1, 1);
        Edge.plan(house, 0, 1);
        house.table(1, 0);
        Edge.plan(house, 1, 0);
        house.generator(2);
        Edge.plan(house, 1, 0, 2);
        house.table(0, 0);
        Edge.plan(house, 0, 1, 2);
        Edge.query(house, 1);
        Edge.plan(house, 0);
        house.clear();
        Edge.plan(house);
        // the run does not keep it
        Due.is("looks()", house::looks, 2 + 2 * 3);
    }

    private static void planPlaces() {
        Due.about("Promise 9", "NoSuchElementException if there is no such place (0 .. one less than there are generators).");
        places("plan", House::plan);
    }

    private static void methodPlaces() {
        Due.about("Promise 10", "NoSuchElementException as for plan().");
        places("method", House::method);
    }

    private static void sizePlaces() {
        Due.about("Promise 11", "NoSuchElementException as for plan().");
        places("size", House::size);
    }

    private static void places(String name, Ask ask) {
        for (int generators = 0; generators <= 6; generators++) {
            int there = generators;
            House house = Sample.ofGenerators(there);
            for (int place = 0; place < there; place++) {
                int at = place;
                String got = Due.answerOf(() -> ask.of(house, at));
                Due.same(name + "(" + at + ") of " + there, got.startsWith("throws.") ? got : "answers", "answers");
            }
            for (int place : Edge.outside(there)) {
                String what = name + "(" + place + ") of " + there;
                Refused.noSuch(what, () -> Sample.ofGenerators(there), on -> ask.of(on, place));
            }
        }
        for (int place : Edge.outside(6)) {
            Refused.noSuch(name + "(" + place + ")", Sample::full, on -> ask.of(on, place));
        }
        // a run of more generators leaves no place behind
        House house = new House();
        Edge.query(house, 0, 0, 0, 0, 0, 0);
        house.run();
        house.clear();
        Due.noSuch(name + "(0) after clear()", () -> ask.of(house, 0));
        house.generator(0);
        Due.noSuch(name + "(1) of 1", () -> ask.of(house, 1));
    }

    private static void methodThere() {
        Due.about("Promise 10", "The METHOD there.");
        House house = new House();
        house.table(2, 1);
        for (int table = 0; table <= 2; table++) {
            Edge.alike(house, table, 2 + table, 1);
        }
        Edge.query(house, 2, 1, 0);
        Edge.plan(house, 2, 1, 0);
        Edge.methods(house, 3, 3, 3);
        house.equal(2, 0, 1, 0);
        Edge.methods(house, 3, 2, 3);
        house.equal(2, 0, 0, 0);
        Edge.methods(house, 3, 2, 1);
        // as the tables are now
        house.table(2, 14);
        Edge.plan(house, 0, 1, 2);
        Edge.methods(house, 3, 3, 2);
        house.table(0, 1);
        Edge.plan(house, 0, 1, 2);
        Edge.methods(house, 3, 3, 1);
        house.number(0, 3, 0);
        Edge.methods(house, 1, 3, 1);
    }

    private static void sizeThere() {
        Due.about("Promise 11", "The SIZE of the plan's beginning that ends there.");
        House house = new House();
        Edge.alike(house, 0, 30, 1);
        Edge.alike(house, 1, 2, 1);
        Edge.query(house, 0, 1);
        Edge.sizes(house, 2, 60);
        house.less(0, 0, 1, 0);
        Edge.sizes(house, 2, 20);
        house.row(1, 1, 1, 1, 1);
        Edge.sizes(house, 3, 30);
        Edge.query(house, 0, 0, 0, 0, 0, 0);
        Edge.sizes(house, 30, 900, 27_000, 810_000, 24_300_000, 729_000_000);
        house.table(0, 0);
        Edge.sizes(house, 0, 0, 0, 0, 0, 0);
        house.row(0, 1, 1, 1, 1);
        Edge.sizes(house, 1, 1, 1, 1, 1, 1);
    }
}

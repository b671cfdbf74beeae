import java.util.List;
import java.util.Set;
import java.util.TreeSet;

/** What the document says of the whole and of all calls: such as throw change nothing, and 512 of them are answered. */
final class CallEdges {
    private record Call(String name, Refused.Call call) {
    }

    private static final int L = Edge.LEAST;
    private static final int G = Edge.GREATEST;

    /** Each throws in one of the states at least, and many in all of them. */
    private static final List<Call> CALLS = List.of(
            new Call("row", on -> on.row(3, L, G, L, G)), new Call("row", on -> on.row(-1, 1, 1, 1, 1)),
            new Call("row", on -> on.row(6, 1, 1, 1, 1)), new Call("row", on -> on.row(L, L, L, L, L)),
            new Call("generator", on -> on.generator(0)), new Call("generator", on -> on.generator(5)),
            new Call("generator", on -> on.generator(-1)), new Call("generator", on -> on.generator(6)),
            new Call("generator", on -> on.generator(G)), new Call("equal", on -> on.equal(0, 0, 0, 0)),
            new Call("equal", on -> on.equal(0, 4, 0, 0)), new Call("equal", on -> on.equal(0, 0, 6, 0)),
            new Call("equal", on -> on.equal(L, L, L, L)), new Call("number", on -> on.number(0, 0, L)),
            new Call("number", on -> on.number(0, -1, 1)), new Call("number", on -> on.number(6, 0, 1)),
            new Call("number", on -> on.number(G, G, G)), new Call("less", on -> on.less(0, 3, 0, 0)),
            new Call("less", on -> on.less(0, 0, 0, 4)), new Call("less", on -> on.less(-1, 0, 0, 0)),
            new Call("less", on -> on.less(G, L, G, L)), new Call("plan", on -> on.plan(-1)),
            new Call("plan", on -> on.plan(0)), new Call("plan", on -> on.plan(6)),
            new Call("method", on -> on.method(-1)), new Call("method", on -> on.method(0)),
            new Call("method", on -> on.method(6)), new Call("size", on -> on.size(-1)),
            new Call("size", on -> on.size(0)), new Call("size", on -> on.size(6)),
            new Call("run", House::run), new Call("way", on -> on.way(0, 0)),
            new Call("way", on -> on.way(-1, 0)), new Call("way", on -> on.way(3000, 0)),
            new Call("way", on -> on.way(0, -1)), new Call("way", on -> on.way(0, 6)),
            new Call("way", on -> on.way(G, L)), new Call("table", on -> on.table(-1, 0)),
            new Call("table", on -> on.table(6, 0)), new Call("table", on -> on.table(0, 16)),
            new Call("table", on -> on.table(3, -1)), new Call("table", on -> on.table(L, G)));

    private static final List<Refused.Make> STATES = List.of(House::new, Sample::joined, Sample::full,
            Sample::ranTooFar, () -> Sample.ofGenerators(3), () -> RunEdges.joined(true), CallEdges::cleared);

    private CallEdges() {
    }

    static void all() {
        whatItIs();
        eachChangesNothing();
        allChangeNothing();
        manyRuns();
        manyRefusedRuns();
        manyRows();
        manyQueries();
        manyQuestions();
        manyWays();
        manyRefusals();
        laterCalls();
    }

    private static void whatItIs() {
        Due.about("What it is", "Rows of tables joined by conditions: the order in which tables are gone to, by the sizes"
                + " that are to be expected; each by an index, by rows put under their values, or gone through;"
                + " what comes of it in the query's own order.");
        House house = new House();
        house.table(1, 1);
        for (int row = 0; row < 8; row++) {
            house.row(2, 0, row % 4, 0, 0);
        }
        for (int row = 0; row < 6; row++) {
            house.row(1, row % 3, row, 0, 0);
        }
        Edge.rows(house, 0, 3);
        Edge.query(house, 2, 1, 0);
        house.equal(1, 0, 2, 0);
        house.equal(0, 1, 1, 1);
        Edge.plan(house, 2, 1, 0);
        Edge.sizes(house, 3, 6, 8);
        Edge.methods(house, 3, 1, 2);
        Edge.run("three tables", house, 8, 3 + 6 + (8 + 8));
        for (int way = 0; way < 8; way++) {
            int at = way;
            Due.is("way(" + at + ", 0)", () -> house.way(at, 0), at);
            Due.is("way(" + at + ", 1)", () -> house.way(at, 1), at % 4);
            Due.is("way(" + at + ", 2)", () -> house.way(at, 2), at % 4 % 3);
        }
    }

    private static House cleared() {
        House house = Sample.full();
        house.clear();
        return house;
    }

    private static boolean isThrown(Refused.Make state, Call call) {
        return Refused.answer(state.house(), call.call).startsWith("throws.");
    }

    private static void eachChangesNothing() {
        Due.about("Term 3", "A call that throws changes nothing.");
        Set<String> thrown = new TreeSet<>();
        for (Refused.Make state : STATES) {
            for (Call call : CALLS) {
                if (isThrown(state, call)) {
                    thrown.add(call.name + " " + Refused.answer(state.house(), call.call));
                    Refused.changesNothing(call.name, state, call.call);
                }
            }
        }
        Due.same("each call with each of its exceptions", String.join(", ", thrown),
                "equal throws.IllegalArgumentException, equal throws.UnsupportedOperationException, "
                + "generator throws.IllegalArgumentException, generator throws.UnsupportedOperationException, "
                + "less throws.IllegalArgumentException, less throws.UnsupportedOperationException, "
                + "method throws.NoSuchElementException, "
                + "number throws.IllegalArgumentException, number throws.UnsupportedOperationException, "
                + "plan throws.NoSuchElementException, "
                + "row throws.IllegalArgumentException, row throws.UnsupportedOperationException, "
                + "run throws.UnsupportedOperationException, size throws.NoSuchElementException, "
                + "table throws.IllegalArgumentException, way throws.NoSuchElementException");
    }

    private static void allChangeNothing() {
        Due.about("Term 3", "A call that throws changes nothing.");
        for (Refused.Make state : STATES) {
            List<Call> thrown = CALLS.stream().filter(call -> isThrown(state, call)).toList();
            Refused.changesNothing("all such calls one after the other", state,
                    on -> thrown.forEach(call -> Refused.answer(on, call.call)));
        }
    }

    private static final String MOST_CALLS = "An object is used for at most 512 calls after it has been made;";

    private static void manyRuns() {
        Due.about("What it is", MOST_CALLS);
        House house = RunEdges.joined(false);
        while (house.callsLeft() > 1) {
            Due.is("a run of 3000 ways", house::run, 3000);
        }
        Due.is("the 512th call", () -> house.way(2999, 2), 19);
    }

    private static void manyRefusedRuns() {
        Due.about("What it is", MOST_CALLS);
        House house = RunEdges.joined(false);
        house.run();
        house.row(2, 1, 1, 1, 1);
        while (house.callsLeft() > 1) {
            Due.unsupported("a run of 3001 choices", house::run);
        }
        Due.is("the 512th call", () -> house.way(2999, 0), 14);
    }

    private static void manyRows() {
        Due.about("What it is", MOST_CALLS);
        House house = new House();
        for (int call = 1; house.callsLeft() > 0; call++) {
            int table = call / 32 % 6;
            int row = call % 32 - 1;
            if (row < 0) {
                Due.is("table()", Due.of(() -> house.table(table, 15)), 0);
            } else if (row < 30) {
                Due.is("row()", () -> house.row(table, row, row, row, row), row);
            } else {
                Due.unsupported("row()", () -> house.row(table, row, row, row, row));
            }
        }
    }

    private static void manyQueries() {
        Due.about("What it is", MOST_CALLS);
        House house = new House();
        for (int call = 0; house.callsLeft() > 0; call++) {
            int step = call % 21;
            if (step < 6) {
                Due.is("generator()", () -> house.generator(step), step);
            } else if (step == 6) {
                Due.unsupported("a seventh", () -> house.generator(0));
            } else if (step < 19) {
                Due.is("equal()", () -> house.equal(step % 6, 0, 0, 0), step - 7);
            } else if (step == 19) {
                Due.unsupported("a 13th", () -> house.number(0, 0, 0));
            } else {
                Due.is("clear()", Due.of(house::clear), 0);
            }
        }
    }

    private static void manyQuestions() {
        Due.about("What it is", MOST_CALLS);
        House house = new House();
        for (int table = 0; table <= 5; table++) {
            Edge.alike(house, table, 6 - table, 1);
            house.generator(table);
        }
        int[] sizes = {1, 2, 6, 24, 120, 720};
        for (int call = 0; house.callsLeft() > 0; call++) {
            int place = call / 3 % 6;
            if (call % 3 == 0) {
                Due.is("plan()", () -> house.plan(place), 5 - place);
            } else if (call % 3 == 1) {
                Due.is("method()", () -> house.method(place), 3);
            } else {
                Due.is("size()", () -> house.size(place), sizes[place]);
            }
        }
    }

    private static void manyWays() {
        Due.about("What it is", MOST_CALLS);
        House house = RunEdges.joined(false);
        house.run();
        for (int way = 2999; house.callsLeft() > 0; way -= 6) {
            int at = way;
            Due.is("way()", () -> house.way(at, 1), at / 20 % 10);
        }
    }

    private static void manyRefusals() {
        Due.about("What it is", MOST_CALLS);
        List<Call> thrown = CALLS.stream().filter(call -> isThrown(House::new, call)).toList();
        House house = new House();
        for (int call = 0; house.callsLeft() > 4; call++) {
            Call next = thrown.get(call % thrown.size());
            String got = Refused.answer(house, next.call);
            Due.same(next.name, got.substring(0, Math.min(7, got.length())), "throws.");
        }
        Due.is("row()", () -> house.row(5, 1, 1, 1, 1), 0);
        Due.is("generator()", () -> house.generator(5), 0);
        Due.is("run()", house::run, 1);
        Due.is("the 512th call", () -> house.way(0, 0), 0);
    }

    /** They may answer anything, but LANGUAGE.md lets none of them throw by itself. */
    private static void laterCalls() {
        Due.about("What it is", "what later calls answer is free.");
        JoinHouse house = new JoinHouse();
        Set<String> thrown = new TreeSet<>();
        for (int call = 0; call < 2000; call++) {
            int at = call;
            thrown.add(Due.answerOf(Due.of(() -> house.row(at % 6, at, at, at, at))));
            thrown.add(Due.answerOf(Due.of(() -> house.generator(at % 6))));
            thrown.add(Due.answerOf(Due.of(() -> house.less(at % 6, 0, 0, 1))));
            thrown.add(Due.answerOf(Due.of(house::run)));
        }
        thrown.removeAll(Set.of("0", "throws.UnsupportedOperationException", "throws.IllegalArgumentException"));
        Due.same("what no call may throw", thrown.toString(), "[]");
    }
}

/** A house and the model beside it: each call is made on both, and their answers are held against each other. */
final class Beside {
    private final House house = new House();
    private final Model model = new Model();
    private final String name;

    Beside(String name) {
        this.name = name;
    }

    int callsLeft() {
        return house.callsLeft();
    }

    String table(int table, int bits) {
        return same("table", Due.of(() -> house.table(table, bits)), Due.of(() -> model.table(table, bits)));
    }

    String row(int table, int a, int b, int c, int d) {
        return same("row", () -> house.row(table, a, b, c, d), () -> model.row(table, a, b, c, d));
    }

    String clear() {
        return same("clear", Due.of(house::clear), Due.of(model::clear));
    }

    String generator(int table) {
        return same("generator", () -> house.generator(table), () -> model.generator(table));
    }

    String equal(int generator, int column, int other, int otherColumn) {
        return same("equal", () -> house.equal(generator, column, other, otherColumn),
                () -> model.equal(generator, column, other, otherColumn));
    }

    String number(int generator, int column, int v) {
        return same("number", () -> house.number(generator, column, v), () -> model.number(generator, column, v));
    }

    String less(int generator, int column, int other, int otherColumn) {
        return same("less", () -> house.less(generator, column, other, otherColumn),
                () -> model.less(generator, column, other, otherColumn));
    }

    String plan(int place) {
        return same("plan", () -> house.plan(place), () -> model.plan(place));
    }

    String method(int place) {
        return same("method", () -> house.method(place), () -> model.method(place));
    }

    String size(int place) {
        return same("size", () -> house.size(place), () -> model.size(place));
    }

    /** Of few rows the ways are counted by their definition too, without any plan. */
    String run() {
        String got = same("run", house::run, model::run);
        if (!isNoAnswer(got) && model.product() <= 2000) {
            Due.same(name + "ways", got, Integer.toString(model.waysByDefinition()));
        }
        return got;
    }

    String looks() {
        return same("looks", house::looks, model::looks);
    }

    String way(int way, int generator) {
        return same("way", () -> house.way(way, generator), () -> model.way(way, generator));
    }

    /** Whether a call threw, or was not made any more. */
    static boolean isNoAnswer(String got) {
        return got.isEmpty() || isThrown(got);
    }

    static boolean isThrown(String got) {
        return got.startsWith("throws.");
    }

    /** Neither of them is called when the object has had its 512 calls. */
    private String same(String what, Due.Call ofHouse, Due.Call ofModel) {
        if (house.callsLeft() == 0) {
            return "";
        }
        String got = Due.answerOf(ofHouse);
        int call = House.MOST_CALLS - house.callsLeft();
        Due.same(name + "call " + call + ", " + what, got, Due.answerOf(ofModel));
        return got;
    }
}

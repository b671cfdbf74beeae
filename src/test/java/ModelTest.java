import java.util.Random;

/** Runs of 512 calls on an object and on the model, told from a fixed seed: each answer is the same. */
public final class ModelTest {
    private static final int RUNS = 4000;

    private final Random random;
    private final House house = new House();
    private final Model model = new Model();
    private final String name;
    private final int values;
    private final int mostRows;
    private final int wrongIn;
    private int runs = 0;
    private int refused = 0;

    private ModelTest(int seed) {
        random = new Random(seed);
        name = "seed " + seed + ": ";
        values = new int[] {2, 3, 5, 12, 40}[random.nextInt(5)];
        mostRows = new int[] {3, 6, 12, 40}[random.nextInt(4)];
        wrongIn = 6 + random.nextInt(60);
    }

    public static void main(String[] args) {
        int runs = 0;
        int refused = 0;
        for (int seed = 0; seed < RUNS; seed++) {
            ModelTest test = new ModelTest(seed);
            test.go();
            runs += test.runs;
            refused += test.refused;
        }
        System.out.println(runs + " runs, " + refused + " of them refused");
        Due.end();
    }

    private void go() {
        fill();
        while (house.callsLeft() > 0) {
            step(random.nextInt(100));
        }
    }

    private void fill() {
        for (int table = 0; table < 6; table++) {
            newTable(table);
        }
    }

    private void newTable(int table) {
        int bits = random.nextInt(3) == 0 ? 0 : one(16);
        both("table", Due.of(() -> house.table(table, bits)), Due.of(() -> model.table(table, bits)));
        int rows = random.nextInt(mostRows);
        for (int row = 0; row < rows; row++) {
            newRow(table);
        }
    }

    private void newRow(int table) {
        int a = value();
        int b = value();
        int c = value();
        int d = value();
        both("row", () -> house.row(table, a, b, c, d), () -> model.row(table, a, b, c, d));
    }

    private void step(int what) {
        if (what < 2) {
            newTable(one(6));
        } else if (what < 5) {
            newRow(one(6));
        } else if (what < 8) {
            both("clear", Due.of(house::clear), Due.of(model::clear));
        } else if (what < 24) {
            int table = one(6);
            both("generator", () -> house.generator(table), () -> model.generator(table));
        } else if (what < 54) {
            condition(what);
        } else if (what < 72) {
            ask();
        } else if (what < 82) {
            run();
        } else if (what < 86) {
            both("looks", house::looks, model::looks);
        } else {
            int way = random.nextInt(3) == 0 ? one(3000) : one(8);
            int generator = one(6);
            both("way " + way, () -> house.way(way, generator), () -> model.way(way, generator));
        }
    }

    private void condition(int what) {
        int generator = random.nextInt(4) == 0 ? one(6) : one(3);
        int column = one(4);
        int other = random.nextInt(4) == 0 ? one(6) : one(3);
        int otherColumn = one(4);
        int v = value();
        if (what < 39) {
            both("equal", () -> house.equal(generator, column, other, otherColumn),
                    () -> model.equal(generator, column, other, otherColumn));
        } else if (what < 45) {
            both("number", () -> house.number(generator, column, v), () -> model.number(generator, column, v));
        } else {
            both("less", () -> house.less(generator, column, other, otherColumn),
                    () -> model.less(generator, column, other, otherColumn));
        }
    }

    private void ask() {
        int place = one(6);
        both("plan", () -> house.plan(place), () -> model.plan(place));
        both("method", () -> house.method(place), () -> model.method(place));
        both("size", () -> house.size(place), () -> model.size(place));
    }

    private void run() {
        if (house.callsLeft() == 0) {
            return;
        }
        String got = Due.answerOf(house::run);
        Due.same(name + "run", got, Due.answerOf(model::run));
        runs++;
        refused += got.startsWith("throws.") ? 1 : 0;
        both("looks", house::looks, model::looks);
        if (!got.startsWith("throws.")) {
            if (model.product() <= 2000) {
                Due.same(name + "ways", got, Integer.toString(model.waysByDefinition()));
            }
            int ways = Integer.parseInt(got);
            for (int way : new int[] {0, 1, ways / 3, ways / 2, ways - 1, ways}) {
                for (int generator = 0; generator <= 6; generator++) {
                    int of = generator;
                    both("way " + way, () -> house.way(way, of), () -> model.way(way, of));
                }
            }
        }
    }

    /** Neither of them is called when the object has had its 512 calls. */
    private void both(String what, Due.Call ofHouse, Due.Call ofModel) {
        if (house.callsLeft() > 0) {
            Due.same(name + what, Due.answerOf(ofHouse), Due.answerOf(ofModel));
        }
    }

    /** A number below a bound, now and then a wrong one. */
    private int one(int bound) {
        if (random.nextInt(wrongIn) == 0) {
            return new int[] {-1, bound, bound + 1, Integer.MIN_VALUE, Integer.MAX_VALUE}[random.nextInt(5)];
        }
        return random.nextInt(bound);
    }

    private int value() {
        int value = random.nextInt(values);
        return value == 0 && random.nextInt(3) == 0 ? Integer.MIN_VALUE
                : value == 1 && random.nextInt(3) == 0 ? Integer.MAX_VALUE : value;
    }
}

import java.util.Random;

/** Runs of 512 calls on an object and on the model, told from a fixed seed: each answer is the same. */
public final class ModelTest {
    private static final int OBJECTS = 4000;

    private static int runs = 0;
    private static int refused = 0;

    private final Random random;
    private final Beside both;
    private final int values;
    private final int mostRows;
    private final int wrongIn;

    private ModelTest(int seed) {
        random = new Random(seed);
        both = new Beside("seed " + seed + ": ");
        values = new int[] {2, 3, 5, 12, 40}[random.nextInt(5)];
        mostRows = new int[] {3, 6, 12, 40}[random.nextInt(4)];
        wrongIn = 6 + random.nextInt(60);
    }

    public static void main(String[] args) {
        for (int seed = 0; seed < OBJECTS; seed++) {
            new ModelTest(seed).go();
        }
        System.out.println(runs + " runs, " + refused + " of them refused");
        Due.end();
    }

    private void go() {
        for (int table = 0; table < 6; table++) {
            newTable(table);
        }
        while (both.callsLeft() > 0) {
            step(random.nextInt(100));
        }
    }

    private void newTable(int table) {
        both.table(table, random.nextInt(3) == 0 ? 0 : one(16));
        int rows = random.nextInt(mostRows);
        for (int row = 0; row < rows; row++) {
            newRow(table);
        }
    }

    private void newRow(int table) {
        both.row(table, value(), value(), value(), value());
    }

    private void step(int what) {
        if (what < 2) {
            newTable(one(6));
        } else if (what < 5) {
            newRow(one(6));
        } else if (what < 8) {
            both.clear();
        } else if (what < 24) {
            both.generator(one(6));
        } else if (what < 54) {
            condition(what);
        } else if (what < 72) {
            ask();
        } else if (what < 82) {
            run();
        } else if (what < 86) {
            both.looks();
        } else {
            both.way(random.nextInt(3) == 0 ? one(3000) : one(8), one(6));
        }
    }

    private void condition(int what) {
        if (what < 39) {
            both.equal(side(), one(4), side(), one(4));
        } else if (what < 45) {
            both.number(side(), one(4), value());
        } else {
            both.less(side(), one(4), side(), one(4));
        }
    }

    private void ask() {
        int place = one(6);
        both.plan(place);
        both.method(place);
        both.size(place);
    }

    private void run() {
        if (both.callsLeft() == 0) {
            return;
        }
        String got = both.run();
        runs++;
        both.looks();
        if (Beside.isThrown(got)) {
            refused++;
            return;
        }
        int ways = Integer.parseInt(got);
        for (int way : new int[] {0, 1, ways / 3, ways / 2, ways - 1, ways}) {
            for (int generator = 0; generator <= 6; generator++) {
                both.way(way, generator);
            }
        }
    }

    /** Mostly a low generator, since there are seldom six. */
    private int side() {
        return random.nextInt(4) == 0 ? one(6) : one(3);
    }

    /** A number below a bound, now and then a wrong one. */
    private int one(int bound) {
        if (random.nextInt(wrongIn) == 0) {
            return new int[] {-1, bound, bound + 1, Integer.MIN_VALUE, Integer.MAX_VALUE}[random.nextInt(5)];
        }
        return random.nextInt(bound);
    }

    private int value() {
        int value = random.nextInt(values);
        return value == 0 && random.nextInt(3) == 0 ? Integer.MIN_VALUE
                : value == 1 && random.nextInt(3) == 0 ? Integer.MAX_VALUE : value;
    }
}

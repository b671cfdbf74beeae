import java.util.Random;

/**
 * Objects used for all of their 512 calls, in rounds: tables are emptied and filled again, the query is cleared
 * and made anew, and runs that end and runs that are refused follow each other. Each answer is the model's.
 */
public final class LongTest {
    private static final int OBJECTS = 1000;
    private static final int ENDED = 0;
    private static final int REFUSED = 1;

    /** How often a run of one kind followed one of another kind on the same object. */
    private static final int[][] FOLLOWED = new int[2][2];
    private static int emptied = 0;
    private static int cleared = 0;
    private static int mostWays = 0;
    private static int waysThatStayed = 0;
    private static int refusedCalls = 0;

    private final Random random;
    private final Beside both;
    private final int[] rows = new int[6];
    private int latest = ENDED;
    private int runs = 0;
    private int ways = 0;

    private LongTest(int seed) {
        random = new Random(seed);
        both = new Beside("object " + seed + ": ");
    }

    public static void main(String[] args) {
        for (int seed = 0; seed < OBJECTS; seed++) {
            new LongTest(seed).go();
        }
        enough("a run that ends after one that ends", FOLLOWED[ENDED][ENDED]);
        enough("a refused run after one that ends", FOLLOWED[ENDED][REFUSED]);
        enough("a run that ends after a refused one", FOLLOWED[REFUSED][ENDED]);
        enough("a refused run after a refused one", FOLLOWED[REFUSED][REFUSED]);
        enough("a table with rows that is emptied", emptied);
        enough("a query that is cleared", cleared);
        enough("a run of just 3000 ways", mostWays);
        enough("a way that stays after a refused run", waysThatStayed);
        enough("a refused call amid others", refusedCalls);
        Due.end();
    }

    /** What these runs are for has to come often, or they would test nothing. */
    private static void enough(String what, int times) {
        System.out.println(times + " times " + what);
        Due.same(what, times >= OBJECTS / 2 ? "often" : times + " times", "often");
    }

    private void go() {
        askNew();
        for (int table = 0; table < 6; table++) {
            fill(table, someRows());
        }
        while (both.callsLeft() > 0) {
            round(random.nextInt(6));
        }
    }

    private void askNew() {
        askPlan();
        askRun();
        both.generator(random.nextInt(6));
        both.number(random.nextInt(2), 0, value());
    }

    private void round(int kind) {
        if (kind == 0) {
            threeThousand();
            return;
        }
        for (int tables = random.nextInt(3); tables > 0; tables--) {
            fill(random.nextInt(6), someRows());
        }
        if (kind < 4) {
            longQuery();
        } else {
            shortQuery();
        }
        askPlan();
        run();
        askRun();
        change(random.nextInt(6));
        askRun();
    }

    private void fill(int table, int wanted) {
        both.table(table, random.nextInt(16));
        emptied += rows[table] > 0 ? 1 : 0;
        rows[table] = 0;
        for (int row = 0; row < wanted; row++) {
            row(table);
        }
    }

    private int someRows() {
        int kind = random.nextInt(20);
        return kind == 0 ? 0 : kind == 1 ? 31 : kind < 5 ? 1 + random.nextInt(3) : 4 + random.nextInt(4);
    }

    private void row(int table) {
        if (!Beside.isNoAnswer(both.row(table, value(), value(), value(), value()))) {
            rows[table]++;
        }
    }

    private int value() {
        int value = random.nextInt(6);
        return value == 0 ? Integer.MIN_VALUE : value == 1 ? Integer.MAX_VALUE : value;
    }

    private void clear() {
        both.clear();
        cleared++;
    }

    /** Six generators of tables that have rows enough for too many choices, if conditions do not make them fewer. */
    private void longQuery() {
        clear();
        int most = 0;
        for (int table = 1; table < 6; table++) {
            most = rows[table] > rows[most] ? table : most;
        }
        for (int generator = 0; generator < 6; generator++) {
            int table = random.nextInt(6);
            both.generator(rows[table] >= 4 ? table : most);
        }
        conditions(random.nextInt(8) == 0 ? 13 : random.nextInt(3), 6);
    }

    private void shortQuery() {
        clear();
        int generators = random.nextInt(6);
        for (int generator = 0; generator < generators; generator++) {
            both.generator(random.nextInt(6));
        }
        for (int generator = 1; generator < generators; generator++) {
            both.equal(generator, random.nextInt(4), random.nextInt(generator), random.nextInt(4));
        }
        conditions(random.nextInt(4), generators);
    }

    private void conditions(int many, int generators) {
        for (int i = 0; i < many && generators > 0; i++) {
            int generator = random.nextInt(generators);
            int other = random.nextInt(generators);
            switch (random.nextInt(3)) {
                case 0 -> both.equal(generator, random.nextInt(4), other, random.nextInt(4));
                case 1 -> both.number(generator, random.nextInt(4), value());
                default -> both.less(generator, random.nextInt(4), other, random.nextInt(4));
            }
        }
    }

    /** Just 3000 choices at the last generator, then more of them by one row, then 3000 again. */
    private void threeThousand() {
        int[] product = {5, 5, 5, 4, 6, 1};
        int first = random.nextInt(6);
        clear();
        for (int table = 0; table < 6; table++) {
            fill(table, product[(first + table) % 6]);
            both.generator(table);
        }
        run();
        askRun();
        int longer = random.nextInt(6);
        row(longer);
        run();
        askRun();
        fill(longer, product[(first + longer) % 6]);
        run();
        askRun();
    }

    /** In any order: none of the three may lean on one of the others having been asked. */
    private void askPlan() {
        for (int question = 0; question < 6; question++) {
            int place = random.nextInt(7);
            switch (random.nextInt(3)) {
                case 0 -> both.plan(place);
                case 1 -> both.method(place);
                default -> both.size(place);
            }
        }
    }

    private void run() {
        String got = both.run();
        if (got.isEmpty()) {
            return;
        }
        int kind = Beside.isThrown(got) ? REFUSED : ENDED;
        if (kind == ENDED) {
            ways = Integer.parseInt(got);
            mostWays += ways == 3000 ? 1 : 0;
        }
        if (runs > 0) {
            FOLLOWED[latest][kind]++;
        }
        latest = kind;
        runs++;
    }

    private void askRun() {
        both.looks();
        for (int way : new int[] {0, random.nextInt(ways + 1), ways - 1, ways}) {
            String got = both.way(way, random.nextInt(random.nextInt(7) + 1));
            waysThatStayed += latest == REFUSED && !Beside.isNoAnswer(got) ? 1 : 0;
        }
    }

    /** What comes after a run and leaves it as it was. */
    private void change(int kind) {
        switch (kind) {
            case 0 -> fill(random.nextInt(6), someRows());
            case 1 -> row(random.nextInt(6));
            case 2 -> clear();
            case 3 -> both.generator(random.nextInt(6));
            case 4 -> conditions(2, 6);
            default -> {
                for (int call = 0; call < 3; call++) {
                    refusedCalls += Beside.isThrown(wrongCall(random.nextInt(10))) ? 1 : 0;
                }
            }
        }
    }

    private String wrongCall(int kind) {
        int wrong = new int[] {-1, 6, 16, Integer.MIN_VALUE, Integer.MAX_VALUE}[random.nextInt(5)];
        int wrongColumn = wrong == 6 ? 4 : wrong;
        return switch (kind) {
            case 0 -> both.table(wrong, 1);
            case 1 -> both.table(random.nextInt(6), wrong == 6 ? 17 : wrong);
            case 2 -> both.row(wrong, 1, 2, 3, 4);
            case 3 -> both.generator(wrong);
            case 4 -> both.equal(0, wrongColumn, 0, wrongColumn);
            case 5 -> both.number(0, wrongColumn, 1);
            case 6 -> both.less(0, 0, wrong, 0);
            case 7 -> both.plan(wrong);
            case 8 -> both.method(wrong);
            default -> both.size(wrong);
        };
    }
}

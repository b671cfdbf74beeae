import java.util.Arrays;
import java.util.NoSuchElementException;

/** Rows of tables joined by conditions, in the order that the sizes to be expected make cheapest. */
public final class JoinHouse {
    public static final int NONE = -1;

    private static final int TABLES = 6;
    private static final int COLUMNS = 4;
    private static final int MOST_ROWS = 30;
    private static final int MOST_GENERATORS = 6;
    private static final int MOST_CONDITIONS = 12;
    private static final int MOST_CHOICES = 3000;

    private static final int EQUAL = 0;
    private static final int NUMBER = 1;
    private static final int LESS = 2;
    private static final int LESS_DIVISOR = 3;

    private static final int BY_INDEX = 1;
    private static final int BY_VALUES = 2;
    private static final int GONE_THROUGH = 3;

    /** A choice is one int with five bits for each generator's row: 30 rows and six generators fit. */
    private static final int ROW_BITS = 5;
    private static final int ROW_CODES = 1 << ROW_BITS;

    private final Runner runner;
    private final Planner planner;
    private final Query query;
    private final Tables tables;

    public JoinHouse() {
        runner = new Runner();
        planner = runner.planner;
        query = planner.query;
        tables = query.tables;
    }

    public void table(int table, int indexes) throws IllegalArgumentException {
        if (!isTable(table)) {
            throw new IllegalArgumentException("no such table");
        }
        if (indexes < 0 || indexes >= 1 << COLUMNS) {
            throw new IllegalArgumentException("no such column");
        }
        tables.empty(table, indexes);
    }

    public int row(int table, int a, int b, int c, int d)
            throws IllegalArgumentException, UnsupportedOperationException {
        if (!isTable(table)) {
            throw new IllegalArgumentException("no such table");
        }
        if (tables.rows(table) >= MOST_ROWS) {
            throw new UnsupportedOperationException("the table has 30 rows");
        }
        return tables.add(table, a, b, c, d);
    }

    public void clear() {
        query.empty();
    }

    public int generator(int table) throws IllegalArgumentException, UnsupportedOperationException {
        if (!isTable(table)) {
            throw new IllegalArgumentException("no such table");
        }
        if (query.generators >= MOST_GENERATORS) {
            throw new UnsupportedOperationException("there are six generators");
        }
        return query.addGenerator(table);
    }

    public int equal(int generator, int column, int other, int otherColumn)
            throws IllegalArgumentException, UnsupportedOperationException {
        checkSide(generator, column);
        checkSide(other, otherColumn);
        checkConditionsLeft();
        return query.addCondition(EQUAL, generator, column, other, otherColumn);
    }

    public int number(int generator, int column, int v)
            throws IllegalArgumentException, UnsupportedOperationException {
        checkSide(generator, column);
        checkConditionsLeft();
        return query.addCondition(NUMBER, generator, column, NONE, v);
    }

    public int less(int generator, int column, int other, int otherColumn)
            throws IllegalArgumentException, UnsupportedOperationException {
        checkSide(generator, column);
        checkSide(other, otherColumn);
        checkConditionsLeft();
        return query.addCondition(LESS, generator, column, other, otherColumn);
    }

    public int plan(int place) throws NoSuchElementException {
        checkPlace(place);
        planner.make();
        return planner.order[place];
    }

    public int method(int place) throws NoSuchElementException {
        checkPlace(place);
        planner.make();
        return planner.methodAt(place);
    }

    public int size(int place) throws NoSuchElementException {
        checkPlace(place);
        planner.make();
        return planner.sizeAt(place);
    }

    public int run() throws UnsupportedOperationException {
        if (!runner.go()) {
            throw new UnsupportedOperationException("more than 3000 choices at a generator");
        }
        return runner.keptWays;
    }

    public int looks() {
        return runner.keptLooked;
    }

    public int way(int way, int generator) throws NoSuchElementException {
        if (way < 0 || way >= runner.keptWays) {
            throw new NoSuchElementException("no such way");
        }
        if (generator < 0 || generator >= runner.keptGenerators) {
            throw new NoSuchElementException("the run had no such generator");
        }
        return rowIn(runner.kept[way], generator);
    }

    private void checkSide(int generator, int column) {
        if (generator < 0 || generator >= query.generators) {
            throw new IllegalArgumentException("no such generator");
        }
        if (column < 0 || column >= COLUMNS) {
            throw new IllegalArgumentException("no such column");
        }
    }

    private void checkConditionsLeft() {
        if (query.conditions >= MOST_CONDITIONS) {
            throw new UnsupportedOperationException("there are twelve conditions");
        }
    }

    private void checkPlace(int place) {
        if (place < 0 || place >= query.generators) {
            throw new NoSuchElementException("no such place");
        }
    }

    private static boolean isTable(int table) {
        return table >= 0 && table < TABLES;
    }

    private static boolean isIn(int set, int generator) {
        return (set >>> generator & 1) != 0;
    }

    private static int rowIn(int choice, int generator) {
        return choice >>> generator * ROW_BITS & ROW_CODES - 1;
    }

    /** The rows and indexes of the six tables. */
    private static final class Tables {
        private final int[] cells = new int[TABLES * MOST_ROWS * COLUMNS];
        private final int[] counts = new int[TABLES];
        private final int[] indexed = new int[TABLES];
        private final int[] unlike = new int[TABLES * COLUMNS];

        void empty(int table, int indexes) {
            counts[table] = 0;
            indexed[table] = indexes;
            for (int column = 0; column < COLUMNS; column++) {
                unlike[table * COLUMNS + column] = 0;
            }
        }

        int add(int table, int a, int b, int c, int d) {
            put(table, 0, a);
            put(table, 1, b);
            put(table, 2, c);
            put(table, 3, d);
            int added = counts[table];
            counts[table] = added + 1;
            return added;
        }

        int rows(int table) {
            return counts[table];
        }

        int value(int table, int row, int column) {
            return cells[(table * MOST_ROWS + row) * COLUMNS + column];
        }

        int spread(int table, int column) {
            return Math.max(1, unlike[table * COLUMNS + column]);
        }

        boolean hasIndex(int table, int column) {
            return (indexed[table] >>> column & 1) != 0;
        }

        private void put(int table, int column, int value) {
            if (!hasValue(table, column, value)) {
                unlike[table * COLUMNS + column]++;
            }
            cells[(table * MOST_ROWS + counts[table]) * COLUMNS + column] = value;
        }

        private boolean hasValue(int table, int column, int value) {
            for (int row = 0; row < counts[table]; row++) {
                if (value(table, row, column) == value) {
                    return true;
                }
            }
            return false;
        }
    }

    /** The generators and conditions, and the tables that they speak of. Sets of generators are bits. */
    private static final class Query {
        private final Tables tables = new Tables();
        private final int[] tableOf = new int[MOST_GENERATORS];
        private final int[] kinds = new int[MOST_CONDITIONS];
        private final int[] firsts = new int[MOST_CONDITIONS];
        private final int[] firstColumns = new int[MOST_CONDITIONS];
        private final int[] seconds = new int[MOST_CONDITIONS];
        /** The second side's column, or the int of a NUMBER, which has NONE as its second generator. */
        private final int[] secondColumns = new int[MOST_CONDITIONS];
        private final int[] needed = new int[MOST_CONDITIONS];
        private int generators = 0;
        private int conditions = 0;

        void empty() {
            generators = 0;
            conditions = 0;
        }

        int addGenerator(int table) {
            int added = generators;
            tableOf[added] = table;
            generators = added + 1;
            return added;
        }

        int addCondition(int kind, int first, int firstColumn, int second, int secondColumn) {
            int added = conditions;
            kinds[added] = kind;
            firsts[added] = first;
            firstColumns[added] = firstColumn;
            seconds[added] = second;
            secondColumns[added] = secondColumn;
            needed[added] = second == NONE ? 1 << first : 1 << first | 1 << second;
            conditions = added + 1;
            return added;
        }

        int rowsOf(int generator) {
            return tables.rows(tableOf[generator]);
        }

        boolean isWithin(int condition, int set) {
            return (needed[condition] & ~set) == 0;
        }

        /** Whether a condition can first be judged when a generator comes to those ahead of it. */
        boolean isJudgedAt(int condition, int generator, int ahead) {
            return isWithin(condition, ahead | 1 << generator) && !isWithin(condition, ahead);
        }

        /** The other generator of a condition than one of its own, NONE if it has no other. */
        int partner(int condition, int generator) {
            if (firsts[condition] == seconds[condition]) {
                return NONE;
            }
            return firsts[condition] == generator ? seconds[condition] : firsts[condition];
        }

        /** Whether a condition tells a value for a column of a generator, with those ahead of it known. */
        boolean tellsValue(int condition, int generator, int ahead) {
            if (!isJudgedAt(condition, generator, ahead)) {
                return false;
            }
            return kinds[condition] == NUMBER
                    || kinds[condition] == EQUAL && partner(condition, generator) != NONE;
        }

        /** Whether the column of a generator for which a condition tells a value has an index. */
        boolean tellsByIndex(int condition, int generator) {
            int column = firsts[condition] == generator ? firstColumns[condition] : secondColumns[condition];
            return tables.hasIndex(tableOf[generator], column);
        }

        int divisor(int condition) {
            if (kinds[condition] == LESS) {
                return LESS_DIVISOR;
            }
            int spread = tables.spread(tableOf[firsts[condition]], firstColumns[condition]);
            if (kinds[condition] == NUMBER) {
                return spread;
            }
            return Math.max(spread, tables.spread(tableOf[seconds[condition]], secondColumns[condition]));
        }

        /** Whether a condition holds with a row of a generator and a row of the condition's partner, if any. */
        boolean holds(int condition, int generator, int row, int partnerRow) {
            int first = firsts[condition];
            int firstRow = first == generator ? row : partnerRow;
            int firstValue = tables.value(tableOf[first], firstRow, firstColumns[condition]);
            if (kinds[condition] == NUMBER) {
                return firstValue == secondColumns[condition];
            }
            int second = seconds[condition];
            int secondRow = second == generator ? row : partnerRow;
            int secondValue = tables.value(tableOf[second], secondRow, secondColumns[condition]);
            return kinds[condition] == LESS ? firstValue < secondValue : firstValue == secondValue;
        }
    }

    /** The plan of the query as it is now, with its sizes and methods. */
    private static final class Planner {
        private final Query query = new Query();
        private final int[] sizes = new int[1 << MOST_GENERATORS];
        /** For each set of generators at a plan's beginning, the least sum of the sizes after it. */
        private final int[] leastAfter = new int[1 << MOST_GENERATORS];
        private final int[] order = new int[MOST_GENERATORS];

        void make() {
            int all = (1 << query.generators) - 1;
            for (int set = 0; set <= all; set++) {
                sizes[set] = sizeOf(set);
            }
            for (int set = all; set >= 0; set--) {
                leastAfter[set] = sumFrom(set, bestAfter(set));
            }
            int ahead = 0;
            for (int place = 0; place < query.generators; place++) {
                order[place] = bestAfter(ahead);
                ahead |= 1 << order[place];
            }
        }

        int sizeAt(int place) {
            return sizes[aheadOf(place) | 1 << order[place]];
        }

        int methodAt(int place) {
            int generator = order[place];
            int by = conditionFor(generator, aheadOf(place));
            if (by == NONE) {
                return GONE_THROUGH;
            }
            return query.tellsByIndex(by, generator) ? BY_INDEX : BY_VALUES;
        }

        /** The condition that a generator is gone to by, NONE if its rows are gone through. */
        int conditionFor(int generator, int ahead) {
            int byValues = NONE;
            for (int condition = 0; condition < query.conditions; condition++) {
                if (!query.tellsValue(condition, generator, ahead)) {
                    continue;
                }
                if (query.tellsByIndex(condition, generator)) {
                    return condition;
                }
                if (byValues == NONE && query.kinds[condition] == EQUAL) {
                    byValues = condition;
                }
            }
            return byValues;
        }

        private int aheadOf(int place) {
            int ahead = 0;
            for (int before = 0; before < place; before++) {
                ahead |= 1 << order[before];
            }
            return ahead;
        }

        /** No product is above 30 to the sixth, so neither it nor a sum of six sizes leaves an int. */
        private int sizeOf(int set) {
            int size = 1;
            for (int generator = 0; generator < query.generators; generator++) {
                if (isIn(set, generator)) {
                    size *= query.rowsOf(generator);
                }
            }
            for (int condition = 0; condition < query.conditions; condition++) {
                if (query.isWithin(condition, set)) {
                    size = dividedUp(size, query.divisor(condition));
                }
            }
            return size;
        }

        private static int dividedUp(int size, int divisor) {
            return divisor > 1 ? (size + divisor - 1) / divisor : size;
        }

        /** The lowest of the best next generators: what the rest costs hangs on the set alone, not its order. */
        private int bestAfter(int set) {
            int best = NONE;
            for (int generator = 0; generator < query.generators; generator++) {
                if (isIn(set, generator)) {
                    continue;
                }
                if (best == NONE || sumFrom(set, generator) < sumFrom(set, best)) {
                    best = generator;
                }
            }
            return best;
        }

        /** The sum of the sizes after a set if a generator comes next; after the full set NONE comes. */
        private int sumFrom(int set, int generator) {
            if (generator == NONE) {
                return 0;
            }
            int next = set | 1 << generator;
            return sizes[next] + leastAfter[next];
        }
    }

    /** The conditions first judged at one generator, and the rows (as bits) that each lets through. */
    private static final class Sieve {
        private final int[] judged = new int[MOST_CONDITIONS];
        private final int[] partners = new int[MOST_CONDITIONS];
        private final int[] let = new int[MOST_CONDITIONS * ROW_CODES];
        private int count = 0;
        private int everyRow = 0;

        void prepare(Query query, int generator, int ahead) {
            count = 0;
            everyRow = (1 << query.rowsOf(generator)) - 1;
            for (int condition = 0; condition < query.conditions; condition++) {
                if (query.isJudgedAt(condition, generator, ahead)) {
                    judged[count] = condition;
                    count++;
                    judge(query, condition, generator);
                }
            }
        }

        int letThroughBy(int condition, int choice) {
            int partner = partners[condition];
            int partnerRow = partner == NONE ? 0 : rowIn(choice, partner);
            return let[condition * ROW_CODES + partnerRow];
        }

        int letThrough(int choice) {
            int rows = everyRow;
            for (int i = 0; i < count; i++) {
                rows &= letThroughBy(judged[i], choice);
            }
            return rows;
        }

        private void judge(Query query, int condition, int generator) {
            int partner = query.partner(condition, generator);
            int partnerRows = partner == NONE ? 1 : query.rowsOf(partner);
            partners[condition] = partner;
            for (int partnerRow = 0; partnerRow < partnerRows; partnerRow++) {
                let[condition * ROW_CODES + partnerRow] = rowsThatHold(query, condition, generator, partnerRow);
            }
        }

        private static int rowsThatHold(Query query, int condition, int generator, int partnerRow) {
            int rows = 0;
            int most = query.rowsOf(generator);
            for (int row = 0; row < most; row++) {
                if (query.holds(condition, generator, row, partnerRow)) {
                    rows |= 1 << row;
                }
            }
            return rows;
        }
    }

    /** A run under way, and the latest one that came to its end. */
    private static final class Runner {
        private final Planner planner = new Planner();
        private final Sieve sieve = new Sieve();
        private int[] choices = new int[MOST_CHOICES];
        private int[] spare = new int[MOST_CHOICES];
        private final int[] starts = new int[ROW_CODES + 1];
        private int count = 0;
        private int looked = 0;

        private int[] kept = new int[MOST_CHOICES];
        private int keptWays = 0;
        private int keptGenerators = 0;
        private int keptLooked = 0;

        /** Answers false, and keeps the run before, if the choices become too many. */
        boolean go() {
            int generators = planner.query.generators;
            planner.make();
            begin(generators);
            int ahead = 0;
            for (int place = 0; place < generators; place++) {
                int generator = planner.order[place];
                sieve.prepare(planner.query, generator, ahead);
                if (!goTo(generator, planner.conditionFor(generator, ahead))) {
                    return false;
                }
                ahead |= 1 << generator;
            }
            for (int generator = generators - 1; generator >= 0; generator--) {
                sortBy(generator);
            }
            keep(generators);
            return true;
        }

        private void begin(int generators) {
            choices[0] = 0;
            count = generators == 0 ? 0 : 1;
            looked = 0;
        }

        private boolean goTo(int generator, int by) {
            int rows = planner.query.rowsOf(generator);
            if (by != NONE && !planner.query.tellsByIndex(by, generator)) {
                looked += rows;
            }
            int made = 0;
            for (int i = 0; i < count; i++) {
                int choice = choices[i];
                looked += by == NONE ? rows : Integer.bitCount(sieve.letThroughBy(by, choice));
                int through = sieve.letThrough(choice);
                if (made + Integer.bitCount(through) > MOST_CHOICES) {
                    return false;
                }
                made = extend(choice, generator, through, made);
            }
            swap();
            count = made;
            return true;
        }

        private int extend(int choice, int generator, int through, int made) {
            int next = made;
            for (int row = 0; row < MOST_ROWS && through >>> row != 0; row++) {
                if ((through >>> row & 1) != 0) {
                    spare[next] = choice | row << generator * ROW_BITS;
                    next++;
                }
            }
            return next;
        }

        /** Leaves choices with like rows in their order, so that a sort by each generator, the last first, is enough. */
        private void sortBy(int generator) {
            Arrays.fill(starts, 0);
            for (int i = 0; i < count; i++) {
                starts[rowIn(choices[i], generator) + 1]++;
            }
            for (int row = 0; row < ROW_CODES; row++) {
                starts[row + 1] += starts[row];
            }
            for (int i = 0; i < count; i++) {
                int row = rowIn(choices[i], generator);
                spare[starts[row]] = choices[i];
                starts[row]++;
            }
            swap();
        }

        private void swap() {
            int[] filled = spare;
            spare = choices;
            choices = filled;
        }

        private void keep(int generators) {
            int[] old = kept;
            kept = choices;
            choices = old;
            keptWays = count;
            keptGenerators = generators;
            keptLooked = looked;
        }
    }
}

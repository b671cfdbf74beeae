import java.util.ArrayList;
import java.util.Arrays;
import java.util.HashSet;
import java.util.List;
import java.util.NoSuchElementException;
import java.util.Set;

/** The document word for word: every order is tried, every row is held against every condition. */
final class Model {
    private record Condition(char kind, int generator, int column, int other, int otherColumn) {
        boolean within(List<Integer> some) {
            return some.contains(generator) && (kind == 'n' || some.contains(other));
        }
    }

    private final List<List<int[]>> tables = new ArrayList<>();
    private final int[] indexes = new int[6];
    private final List<Integer> generators = new ArrayList<>();
    private final List<Condition> conditions = new ArrayList<>();
    private List<int[]> ways = new ArrayList<>();
    private int runGenerators = 0;
    private int looks = 0;

    Model() {
        for (int table = 0; table < 6; table++) {
            tables.add(new ArrayList<>());
        }
    }

    void table(int table, int bits) {
        legal(table >= 0 && table < 6 && (bits & ~15) == 0);
        tables.get(table).clear();
        indexes[table] = bits;
    }

    int row(int table, int a, int b, int c, int d) {
        legal(table >= 0 && table < 6);
        supported(tables.get(table).size() < 30);
        tables.get(table).add(new int[] {a, b, c, d});
        return tables.get(table).size() - 1;
    }

    void clear() {
        generators.clear();
        conditions.clear();
    }

    int generator(int table) {
        legal(table >= 0 && table < 6);
        supported(generators.size() < 6);
        generators.add(table);
        return generators.size() - 1;
    }

    int equal(int generator, int column, int other, int otherColumn) {
        return condition('e', generator, column, other, otherColumn);
    }

    int number(int generator, int column, int v) {
        legal(generator >= 0 && generator < generators.size() && column >= 0 && column < 4);
        supported(conditions.size() < 12);
        conditions.add(new Condition('n', generator, column, -1, v));
        return conditions.size() - 1;
    }

    int less(int generator, int column, int other, int otherColumn) {
        return condition('l', generator, column, other, otherColumn);
    }

    int plan(int place) {
        there(place >= 0 && place < generators.size());
        return bestOrder().get(place);
    }

    int method(int place) {
        there(place >= 0 && place < generators.size());
        List<Integer> order = bestOrder();
        return methodOf(order.get(place), order.subList(0, place));
    }

    int size(int place) {
        there(place >= 0 && place < generators.size());
        return (int) sizeOf(bestOrder().subList(0, place + 1));
    }

    int run() {
        List<Integer> order = bestOrder();
        List<int[]> choices = new ArrayList<>();
        int looked = 0;
        if (!order.isEmpty()) {
            choices.add(new int[order.size()]);
        }
        for (int place = 0; place < order.size(); place++) {
            int generator = order.get(place);
            List<Integer> ahead = order.subList(0, place);
            List<Integer> there = order.subList(0, place + 1);
            int method = methodOf(generator, ahead);
            List<int[]> rows = rowsOf(generator);
            List<int[]> next = new ArrayList<>();
            looked += method == 2 ? rows.size() : 0;
            for (int[] choice : choices) {
                for (int row = 0; row < rows.size(); row++) {
                    int[] longer = choice.clone();
                    longer[generator] = row;
                    if (method == 3 || holds(goneBy(generator, ahead, method), longer)) {
                        looked++;
                    }
                    if (allHold(there, longer)) {
                        next.add(longer);
                    }
                }
            }
            supported(next.size() <= 3000);
            choices = next;
        }
        choices.sort(Arrays::compare);
        ways = choices;
        runGenerators = order.size();
        looks = looked;
        return ways.size();
    }

    int looks() {
        return looks;
    }

    int way(int way, int generator) {
        there(way >= 0 && way < ways.size() && generator >= 0 && generator < runGenerators);
        return ways.get(way)[generator];
    }

    /** The ways counted without any plan, as the terms define them; only for few rows. */
    int waysByDefinition() {
        if (generators.isEmpty()) {
            return 0;
        }
        List<Integer> all = new ArrayList<>();
        long many = 1;
        for (int generator = 0; generator < generators.size(); generator++) {
            all.add(generator);
            many *= rowsOf(generator).size();
        }
        int count = 0;
        for (long number = 0; number < many; number++) {
            int[] choice = new int[generators.size()];
            long left = number;
            for (int generator = 0; generator < choice.length; generator++) {
                choice[generator] = (int) (left % rowsOf(generator).size());
                left /= rowsOf(generator).size();
            }
            count += allHold(all, choice) ? 1 : 0;
        }
        return count;
    }

    long product() {
        long many = 1;
        for (int table : generators) {
            many *= tables.get(table).size();
        }
        return many;
    }

    private int condition(char kind, int generator, int column, int other, int otherColumn) {
        legal(generator >= 0 && generator < generators.size() && column >= 0 && column < 4);
        legal(other >= 0 && other < generators.size() && otherColumn >= 0 && otherColumn < 4);
        supported(conditions.size() < 12);
        conditions.add(new Condition(kind, generator, column, other, otherColumn));
        return conditions.size() - 1;
    }

    private List<int[]> rowsOf(int generator) {
        return tables.get(generators.get(generator));
    }

    private boolean allHold(List<Integer> there, int[] choice) {
        for (Condition condition : conditions) {
            if (condition.within(there) && !holds(condition, choice)) {
                return false;
            }
        }
        return true;
    }

    private boolean holds(Condition condition, int[] choice) {
        int value = rowsOf(condition.generator).get(choice[condition.generator])[condition.column];
        if (condition.kind == 'n') {
            return value == condition.otherColumn;
        }
        int other = rowsOf(condition.other).get(choice[condition.other])[condition.otherColumn];
        return condition.kind == 'l' ? value < other : value == other;
    }

    private int methodOf(int generator, List<Integer> ahead) {
        if (goneBy(generator, ahead, 1) != null) {
            return 1;
        }
        return goneBy(generator, ahead, 2) != null ? 2 : 3;
    }

    private Condition goneBy(int generator, List<Integer> ahead, int method) {
        for (Condition condition : conditions) {
            boolean index = method == 1;
            boolean one = condition.generator == generator && (!index || indexed(generator, condition.column));
            if (condition.kind == 'e') {
                boolean two = condition.other == generator && (!index || indexed(generator, condition.otherColumn));
                if (one && ahead.contains(condition.other) || two && ahead.contains(condition.generator)) {
                    return condition;
                }
            }
            if (condition.kind == 'n' && index && one) {
                return condition;
            }
        }
        return null;
    }

    private boolean indexed(int generator, int column) {
        return (indexes[generators.get(generator)] & 1 << column) != 0;
    }

    private long spread(int generator, int column) {
        Set<Integer> values = new HashSet<>();
        for (int[] row : rowsOf(generator)) {
            values.add(row[column]);
        }
        return values.isEmpty() ? 1 : values.size();
    }

    private long sizeOf(List<Integer> some) {
        long size = 1;
        for (int generator : some) {
            size *= rowsOf(generator).size();
        }
        for (Condition condition : conditions) {
            if (condition.within(some)) {
                long by = 3;
                if (condition.kind != 'l') {
                    by = spread(condition.generator, condition.column);
                }
                if (condition.kind == 'e') {
                    by = Math.max(by, spread(condition.other, condition.otherColumn));
                }
                size = size / by + (size % by == 0 ? 0 : 1);
            }
        }
        return size;
    }

    private List<Integer> best;
    private long bestSum;
    private long[] setSizes;

    private List<Integer> bestOrder() {
        best = null;
        setSizes = new long[64];
        Arrays.fill(setSizes, -1);
        tryOrders(new ArrayList<>(), 0, 0);
        return best;
    }

    /** Orders come first by their numbers, so that only a lesser sum takes the place of the best. */
    private void tryOrders(List<Integer> order, int set, long sum) {
        if (order.size() == generators.size()) {
            if (best == null || sum < bestSum) {
                best = new ArrayList<>(order);
                bestSum = sum;
            }
            return;
        }
        for (int generator = 0; generator < generators.size(); generator++) {
            if (!order.contains(generator)) {
                order.add(generator);
                int longer = set | 1 << generator;
                if (setSizes[longer] < 0) {
                    setSizes[longer] = sizeOf(order);
                }
                tryOrders(order, longer, sum + setSizes[longer]);
                order.remove(order.size() - 1);
            }
        }
    }

    private static void legal(boolean right) {
        if (!right) {
            throw new IllegalArgumentException();
        }
    }

    private static void supported(boolean right) {
        if (!right) {
            throw new UnsupportedOperationException();
        }
    }

    private static void there(boolean right) {
        if (!right) {
            throw new NoSuchElementException();
        }
    }
}

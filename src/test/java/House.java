/** A JoinHouse whose calls are counted: the document promises nothing of one after its 512th call. */
final class House {
    static final int MOST_CALLS = 512;

    private final JoinHouse house = new JoinHouse();
    private int calls = 0;

    int callsLeft() {
        return MOST_CALLS - calls;
    }

    void table(int table, int indexes) {
        counted().table(table, indexes);
    }

    int row(int table, int a, int b, int c, int d) {
        return counted().row(table, a, b, c, d);
    }

    void clear() {
        counted().clear();
    }

    int generator(int table) {
        return counted().generator(table);
    }

    int equal(int generator, int column, int other, int otherColumn) {
        return counted().equal(generator, column, other, otherColumn);
    }

    int number(int generator, int column, int v) {
        return counted().number(generator, column, v);
    }

    int less(int generator, int column, int other, int otherColumn) {
        return counted().less(generator, column, other, otherColumn);
    }

    int plan(int place) {
        return counted().plan(place);
    }

    int method(int place) {
        return counted().method(place);
    }

    int size(int place) {
        return counted().size(place);
    }

    int run() {
        return counted().run();
    }

    int looks() {
        return counted().looks();
    }

    int way(int way, int generator) {
        return counted().way(way, generator);
    }

    /** An Error, which no test takes for an answer: the test itself asks too much. */
    private JoinHouse counted() {
        calls++;
        if (calls > MOST_CALLS) {
            throw new AssertionError("a test makes more than 512 calls on one object");
        }
        return house;
    }
}

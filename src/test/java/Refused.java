/** Refused calls: each throws what is due, and what other calls answer is the same with it and without it. */
final class Refused {
    interface Make {
        House house();
    }

    interface Call {
        void on(House house);
    }

    private interface Probe {
        String ask(House house);
    }

    /** Each is asked of new houses, since it changes them. */
    private static final Probe[] PROBES = {Refused::runNow, Refused::nextNumbers, Refused::columns, Refused::orders};

    private Refused() {
    }

    static void illegal(String what, Make make, Call call) {
        is(what, make, call, "throws.IllegalArgumentException");
    }

    static void unsupported(String what, Make make, Call call) {
        is(what, make, call, "throws.UnsupportedOperationException");
    }

    static void noSuch(String what, Make make, Call call) {
        is(what, make, call, "throws.NoSuchElementException");
    }

    private static void is(String what, Make make, Call call, String due) {
        Due.same(what, answer(make.house(), call), due);
        changesNothing(what, make, call);
    }

    /** Asked before and after it on one house, and on houses with and without it. */
    static void changesNothing(String what, Make make, Call call) {
        House one = make.house();
        String before = State.of(one);
        answer(one, call);
        Due.same("asked before and after " + what, State.of(one), before);
        for (int probe = 0; probe < PROBES.length; probe++) {
            House with = make.house();
            House without = make.house();
            answer(with, call);
            String want = PROBES[probe].ask(without);
            Due.same("probe " + probe + " with and without " + what, PROBES[probe].ask(with), want);
        }
    }

    static String answer(House house, Call call) {
        return Due.answerOf(Due.of(() -> call.on(house)));
    }

    private static String runNow(House house) {
        return Due.answerOf(house::run) + " " + State.ofRun(house);
    }

    /** The numbers that rows, conditions and generators get next, and what comes of it all. */
    private static String nextNumbers(House house) {
        StringBuilder text = new StringBuilder();
        for (int table = 0; table < 6; table++) {
            int of = table;
            text.append(Due.answerOf(() -> house.row(of, 1, 2, 3, 4))).append(' ');
        }
        text.append(Due.answerOf(() -> house.number(0, 0, 1))).append(' ');
        text.append(Due.answerOf(() -> house.generator(5))).append(' ');
        text.append(Due.answerOf(() -> house.less(1, 0, 0, 1))).append(' ');
        text.append(Due.answerOf(() -> house.equal(0, 2, 1, 2))).append(' ');
        text.append(Due.answerOf(house::run)).append(' ');
        return text.append(State.of(house)).toString();
    }

    /** The rows, spread and index of each column of each table. */
    private static String columns(House house) {
        StringBuilder text = new StringBuilder();
        for (int table = 0; table < 6; table++) {
            for (int column = 0; column < 4; column++) {
                house.clear();
                house.generator(table);
                house.number(0, column, 1);
                text.append(house.size(0)).append('/').append(house.method(0)).append('/');
                text.append(house.run()).append('/').append(house.looks()).append('/');
                text.append(Due.answerOf(() -> house.way(0, 0))).append(' ');
            }
        }
        return text.toString();
    }

    /** How the rows of each column of each table are ordered. */
    private static String orders(House house) {
        StringBuilder text = new StringBuilder();
        for (int table = 0; table < 6; table++) {
            for (int column = 0; column < 4; column++) {
                house.clear();
                house.generator(table);
                house.generator(table);
                house.less(0, column, 1, (column + 1) % 4);
                text.append(house.run()).append('/').append(house.looks()).append('/');
                text.append(Due.answerOf(() -> house.way(1, 0))).append('/');
                text.append(Due.answerOf(() -> house.way(1, 1))).append(' ');
            }
        }
        return text.toString();
    }
}

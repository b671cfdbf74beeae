/** What can be asked of an object without changing it, as a text: few enough calls to ask twice within 512. */
final class State {
    private static final int[] WAYS = {-1, 0, 1, 15, 840, 2999, 3000};

    private State() {
    }

    static String of(House house) {
        StringBuilder text = new StringBuilder();
        for (int place = -1; place <= 6; place++) {
            int at = place;
            text.append(brief(() -> house.plan(at))).append('/');
            text.append(brief(() -> house.method(at))).append('/');
            text.append(brief(() -> house.size(at))).append(' ');
        }
        return text.append(ofRun(house)).toString();
    }

    static String ofRun(House house) {
        StringBuilder text = new StringBuilder();
        text.append(Due.answerOf(house::looks));
        for (int generator = -1; generator <= 6; generator++) {
            text.append(" |");
            for (int way : WAYS) {
                int of = generator;
                text.append(' ').append(brief(() -> house.way(way, of)));
            }
        }
        return text.toString();
    }

    private static String brief(Due.Call call) {
        return Due.answerOf(call).replace("throws.NoSuchElementException", "-");
    }
}

/** All that can be asked of an object without changing it, as a text. */
final class State {
    private State() {
    }

    static String of(JoinHouse house) {
        StringBuilder text = new StringBuilder();
        for (int place = -1; place <= 6; place++) {
            int at = place;
            text.append(Due.answerOf(() -> house.plan(at))).append('/');
            text.append(Due.answerOf(() -> house.method(at))).append('/');
            text.append(Due.answerOf(() -> house.size(at))).append(' ');
        }
        text.append(house.looks());
        for (int generator = -1; generator <= 6; generator++) {
            int of = generator;
            text.append(" |");
            for (int way = -1; way <= 3000; way++) {
                int at = way;
                String row = Due.answerOf(() -> house.way(at, of));
                if (way >= 0 && row.startsWith("throws.")) {
                    text.append(' ').append(way).append(row);
                    break;
                }
                text.append(' ').append(row);
            }
        }
        return text.toString();
    }
}

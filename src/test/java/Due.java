/** What the tests share: an answer against the one that is due, a thrown exception being an answer too. */
final class Due {
    interface Call {
        int answer();
    }

    interface Act {
        void go();
    }

    private static String sentence = "";
    private static int wrong = 0;
    private static int seen = 0;

    private Due() {
    }

    /** The sentence that the answers from now on are held against. */
    static void about(String where, String words) {
        sentence = "";
        Document.name(where, words);
        sentence = where + ", \"" + words + "\": ";
    }

    static void aboutNoSentence() {
        sentence = "";
    }

    static void is(String what, Call call, int want) {
        same(what, answerOf(call), Integer.toString(want));
    }

    static void illegal(String what, Call call) {
        same(what, answerOf(call), "throws.IllegalArgumentException");
    }

    static void unsupported(String what, Call call) {
        same(what, answerOf(call), "throws.UnsupportedOperationException");
    }

    static void noSuch(String what, Call call) {
        same(what, answerOf(call), "throws.NoSuchElementException");
    }

    static void same(String what, String got, String want) {
        seen++;
        if (!got.equals(want)) {
            wrong++;
            if (wrong <= 40) {
                System.out.println(sentence + what + " answered " + got + ", due is " + want);
            }
        }
    }

    static String answerOf(Call call) {
        try {
            return Integer.toString(call.answer());
        } catch (RuntimeException e) {
            return "throws." + e.getClass().getSimpleName();
        }
    }

    /** A call without an answer, as one that answers 0. */
    static Call of(Act act) {
        return () -> {
            act.go();
            return 0;
        };
    }

    static void end() {
        System.out.println(seen + " answers, " + wrong + " of them not as due");
        if (wrong != 0 || seen == 0) {
            System.exit(1);
        }
    }
}

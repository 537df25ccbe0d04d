/** Counts the answers of one test that are not the ones that are due, and prints each of them. */
final class Due {
    /** A call whose exception is looked at. */
    interface Call {
        void run();
    }

    private int wrong;
    private String sentence = "";

    /** The promise and the sentence that the answers from here on are held against. */
    void about(String newSentence) {
        sentence = "[" + newSentence + "] ";
    }

    void same(String what, long got, long want) {
        if (got != want) {
            wrong++;
            System.out.println(sentence + what + " answered " + got + ", due is " + want);
        }
    }

    void text(String what, String got, String want) {
        if (!got.equals(want)) {
            wrong++;
            System.out.println(sentence + what + " is " + got + ", due is " + want);
        }
    }

    void throwsA(Class<? extends RuntimeException> kind, String what, Call call) {
        text(what + ": what it throws", thrownBy(call), kind.getSimpleName());
    }

    void noArgument(String what, Call call) {
        throwsA(IllegalArgumentException.class, what, call);
    }

    void noState(String what, Call call) {
        throwsA(IllegalStateException.class, what, call);
    }

    void notSupported(String what, Call call) {
        throwsA(UnsupportedOperationException.class, what, call);
    }

    void finish() {
        if (wrong != 0) {
            System.out.println(wrong + " answers are not as due");
            System.exit(1);
        }
    }

    static String thrownBy(Call call) {
        try {
            call.run();
            return "nothing";
        } catch (RuntimeException e) {
            return e.getClass().getSimpleName();
        }
    }
}

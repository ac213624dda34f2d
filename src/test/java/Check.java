/** What the tests share: checks that count what is wrong, and calls that are made often. */
final class Check {
    static final Class<IndexOutOfBoundsException> INDEX = IndexOutOfBoundsException.class;
    static final Class<IllegalArgumentException> ARGUMENT = IllegalArgumentException.class;
    static final Class<IllegalStateException> STATE = IllegalStateException.class;
    static final Class<ArithmeticException> ARITHMETIC = ArithmeticException.class;
    static final Class<java.util.NoSuchElementException> ELEMENT = java.util.NoSuchElementException.class;

    private static int checks = 0;
    private static int wrong = 0;

    private Check() {
    }

    interface Call {
        long run();
    }

    static void due(String what, long want, long got) {
        checks++;
        if (got != want) {
            wrong++;
            System.out.println(what + " answered " + got + ", due is " + want);
        }
    }

    static void due(String what, boolean want, boolean got) {
        due(what, want ? 1 : 0, got ? 1 : 0);
    }

    static void due(String what, String want, String got) {
        checks++;
        if (!want.equals(got)) {
            wrong++;
            System.out.println(what + " answered " + got + ", due is " + want);
        }
    }

    /** The call throws just this exception. */
    static void fails(String what, Class<? extends RuntimeException> want, Call call) {
        due(what, "throws " + want.getName(), answer(call));
    }

    /** The call throws just this exception and leaves all that can be seen of the state as it was. */
    static void refuses(PreimageAnalyzer x, String what, Class<? extends RuntimeException> want, Call call) {
        String before = stateOf(x);
        fails(what, want, call);
        due("the state after " + what, before, stateOf(x));
    }

    static String answer(Call call) {
        try {
            return Long.toString(call.run());
        } catch (RuntimeException e) {
            return "throws " + e.getClass().getName();
        }
    }

    /** All of the state that calls without effect show; append(0) tells the length of the buffer. */
    static String stateOf(PreimageAnalyzer x) {
        StringBuilder text = new StringBuilder();
        for (int i = 0; i < 4; i++) {
            text.append(x.size(i)).append(' ');
        }
        for (int i = 0; i < x.size(2); i++) {
            text.append(x.output(i));
        }
        for (int i = 0; i < 4; i++) {
            text.append(' ').append(x.wordLength(i)).append(':').append(x.wordIndex(i));
        }
        return text.append(' ').append(x.append(0)).append(' ').append(x.error(0)).append(' ').append(x.error(1))
                .toString();
    }

    static void write(PreimageAnalyzer x, String text) {
        for (int i = 0; i < text.length(); i++) {
            x.append(text.charAt(i));
        }
    }

    static PreimageAnalyzer sized(int states, int width) {
        PreimageAnalyzer x = new PreimageAnalyzer();
        x.setSize(states, width);
        return x;
    }

    static PreimageAnalyzer numbered(int states, int width, long number) {
        PreimageAnalyzer x = sized(states, width);
        x.setNumber(number);
        return x;
    }

    static PreimageAnalyzer formed(int states, int width, String formula) {
        PreimageAnalyzer x = sized(states, width);
        write(x, formula);
        x.compile();
        return x;
    }

    static void end() {
        System.out.println(checks + " checks, " + wrong + " wrong");
        if (wrong != 0 || checks == 0) {
            System.exit(1);
        }
    }
}

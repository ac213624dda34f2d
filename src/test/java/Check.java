/** What the tests share: checks that count what is wrong, and calls that are made often. */
final class Check {
    static final Class<IndexOutOfBoundsException> INDEX = IndexOutOfBoundsException.class;
    static final Class<IllegalArgumentException> ARGUMENT = IllegalArgumentException.class;
    static final Class<IllegalStateException> STATE = IllegalStateException.class;
    static final Class<ArithmeticException> ARITHMETIC = ArithmeticException.class;
    static final Class<java.util.NoSuchElementException> ELEMENT = java.util.NoSuchElementException.class;

    static final int[][] SIZES = {{2, 2}, {2, 3}, {2, 4}, {3, 2}, {3, 3}};

    private static int checks = 0;
    private static int wrong = 0;
    /** What the checks are about, to be printed before what is wrong. */
    private static String topic = "";

    private Check() {
    }

    interface Call {
        long run();
    }

    interface CallWith {
        long run(int value);
    }

    interface Asking {
        long ask(PreimageAnalyzer x);
    }

    static int checksSoFar() {
        return checks;
    }

    static void setTopic(String text) {
        topic = text;
    }

    static void due(String what, long want, long got) {
        due(what, Long.toString(want), Long.toString(got));
    }

    static void due(String what, boolean want, boolean got) {
        due(what, Boolean.toString(want), Boolean.toString(got));
    }

    static void due(String what, String want, String got) {
        checks++;
        if (!want.equals(got)) {
            wrong++;
            System.out.println(topic + what + " answered " + got + ", due is " + want);
        }
    }

    /** The call throws just this exception. */
    static void fails(String what, Class<? extends RuntimeException> want, Call call) {
        due(what, "throws " + want.getName(), answer(call));
    }

    /** The call throws just this exception and leaves all that can be seen of the state as it was. */
    static void refuses(PreimageAnalyzer x, String what, Class<? extends RuntimeException> want, Call call) {
        String before = stateOf(x);
        fails(what, want, call);
        due("the state after " + what, before, stateOf(x));
    }

    /** The call refuses all values beside and far off low to high, and leaves the state as it was. */
    static void refusesOutside(PreimageAnalyzer x, int low, int high, String name,
            Class<? extends RuntimeException> want, CallWith call) {
        int[] outside = {low - 1, low - 2, high + 1, high + 2, high + 256, low - 65536, Integer.MIN_VALUE,
            Integer.MIN_VALUE + low, Integer.MAX_VALUE, Integer.MAX_VALUE - high};
        for (int value : outside) {
            refuses(x, name + " with " + value, want, () -> call.run(value));
        }
    }

    /** What a call answers or throws; what the machine throws is told apart from what the class throws. */
    static String answer(Call call) {
        try {
            return Long.toString(call.run());
        } catch (RuntimeException e) {
            boolean byMachine = e instanceof ArithmeticException && "/ by zero".equals(e.getMessage());
            return (byMachine ? "the machine throws " : "throws ") + e.getClass().getName();
        }
    }

    /** All of the state that calls without effect show; append(0) tells the length of the buffer. */
    static String stateOf(PreimageAnalyzer x) {
        StringBuilder text = new StringBuilder();
        for (int i = 0; i < 4; i++) {
            text.append(x.size(i)).append(' ');
        }
        for (int i = 0; i < x.size(2); i++) {
            text.append(x.output(i));
        }
        for (int i = 0; i < 4; i++) {
            text.append(' ').append(x.wordLength(i)).append(':').append(x.wordIndex(i));
        }
        return text.append(' ').append(x.append(0)).append(' ').append(x.error(0)).append(' ').append(x.error(1))
                .toString();
    }

    static void write(PreimageAnalyzer x, String text) {
        for (int i = 0; i < text.length(); i++) {
            x.append(text.charAt(i));
        }
    }

    /** The number whose digits in the base are the cells, the first one being the most significant. */
    static int index(int base, int... cells) {
        int index = 0;
        for (int cell : cells) {
            index = index * base + cell;
        }
        return index;
    }

    static int pack(String text) {
        int packed = 0;
        for (int i = 0; i < text.length(); i++) {
            packed = packed << 8 | text.charAt(i);
        }
        return packed;
    }

    static PreimageAnalyzer sized(int states, int width) {
        PreimageAnalyzer x = new PreimageAnalyzer();
        x.setSize(states, width);
        return x;
    }

    static PreimageAnalyzer numbered(int states, int width, long number) {
        PreimageAnalyzer x = sized(states, width);
        x.setNumber(number);
        return x;
    }

    static PreimageAnalyzer formed(int states, int width, String formula) {
        PreimageAnalyzer x = sized(states, width);
        write(x, formula);
        x.compile();
        return x;
    }

    /** Rule 110 with words of several lengths, from none to the longest, in the registers. */
    static PreimageAnalyzer filled() {
        PreimageAnalyzer x = numbered(2, 3, 110);
        x.setWord(1, 1, 1);
        x.setWord(2, 8, 77);
        x.setWord(3, 14, 16382);
        return x;
    }

    static void end() {
        System.out.println(checks + " checks, " + wrong + " wrong");
        if (wrong != 0 || checks == 0) {
            System.exit(1);
        }
    }
}

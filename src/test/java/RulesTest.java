/** Promises 1 to 7 and 11 to 14: a new object, sizes, outputs, numbers, equivalent rules, composition. */
public final class RulesTest {
    private static final int[][] SIZES = Check.SIZES;
    private static final int[] NEIGHBORHOODS = {4, 8, 16, 9, 27};
    private static final int[] NODES = {2, 4, 8, 3, 9};
    private static final long[] RULES = {16, 256, 65536, 19683, 7625597484987L};

    public static void main(String[] args) {
        newObject();
        setSize();
        size();
        setOutput();
        output();
        setNumber();
        number();
        mirror();
        complement();
        leastNumber();
        compose();
        Check.end();
    }

    private static void newObject() {
        PreimageAnalyzer x = new PreimageAnalyzer();
        Check.due("a new object", "2 3 8 4 00000000 0:0 0:0 0:0 0:0 0 0 -1", Check.stateOf(x));
        Check.due("its number", 0, x.number());
        Check.fails("restore() of a new object", Check.STATE, x::restore);
        Check.fails("compose() of a new object", Check.STATE, x::compose);
        PreimageAnalyzer other = new PreimageAnalyzer();
        other.setNumber(30);
        Check.due("an object beside another", 0, x.number());
    }

    private static void setSize() {
        PreimageAnalyzer x = new PreimageAnalyzer();
        for (int i = 0; i < SIZES.length; i++) {
            x.setOutput(0, 1);
            x.setWord(2, 1, 1);
            Check.due("setSize", NEIGHBORHOODS[i], x.setSize(SIZES[i][0], SIZES[i][1]));
            Check.due("number after setSize", 0, x.number());
            Check.due("length after setSize", 0, x.wordLength(2));
            Check.due("index after setSize", 0, x.wordIndex(2));
        }
        x.setNumber(7625597484986L);
        x.setSize(3, 3);
        Check.due("number after setSize to the same size", 0, x.number());
        x.setNumber(77);
        x.setWord(1, 3, 20);
        int[][] wrong = {{1, 2}, {1, 3}, {2, 1}, {2, 5}, {3, 1}, {3, 4}, {4, 2}, {4, 3}, {0, 0}, {-2, 3}, {3, -3},
            {2, 0}, {Integer.MAX_VALUE, 2}, {2, Integer.MIN_VALUE}, {Integer.MIN_VALUE, Integer.MAX_VALUE}};
        for (int[] size : wrong) {
            Check.refuses(x, "setSize(" + size[0] + ", " + size[1] + ")", Check.ARGUMENT,
                    () -> x.setSize(size[0], size[1]));
        }
        setSizeLeavesTheRest();
    }

    private static void setSizeLeavesTheRest() {
        PreimageAnalyzer x = new PreimageAnalyzer();
        Check.write(x, "a+");
        Check.fails("compile()", Check.ARGUMENT, x::compile);
        x.setNumber(30);
        x.setWord(0, 2, 3);
        x.save();
        Check.write(x, "a+1");
        x.setSize(3, 2);
        Check.due("the buffer after setSize", 3, x.append(0));
        Check.due("the error after setSize", 2, x.error(1));
        Check.due("compile() after setSize", 6, x.compile());
        Check.due("restore() after setSize", 30, x.restore());
        Check.due("wordIndex(0) after restore()", 3, x.wordIndex(0));
    }

    private static void size() {
        for (int i = 0; i < SIZES.length; i++) {
            PreimageAnalyzer x = Check.sized(SIZES[i][0], SIZES[i][1]);
            Check.due("size(0)", SIZES[i][0], x.size(0));
            Check.due("size(1)", SIZES[i][1], x.size(1));
            Check.due("size(2)", NEIGHBORHOODS[i], x.size(2));
            Check.due("size(3)", NODES[i], x.size(3));
            for (int what : new int[] {-1, 4, Integer.MIN_VALUE, Integer.MAX_VALUE}) {
                Check.refuses(x, "size(" + what + ")", Check.INDEX, () -> x.size(what));
            }
        }
    }

    private static void setOutput() {
        PreimageAnalyzer x = Check.sized(3, 2);
        Check.due("setOutput(8, 2)", 0, x.setOutput(8, 2));
        Check.due("setOutput(8, 1)", 2, x.setOutput(8, 1));
        Check.due("setOutput(0, 2)", 0, x.setOutput(0, 2));
        Check.due("number()", 6561 + 2, x.number());
        for (int index : new int[] {-1, 9, Integer.MAX_VALUE, Integer.MIN_VALUE}) {
            Check.refuses(x, "setOutput(" + index + ", 0)", Check.INDEX, () -> x.setOutput(index, 0));
            Check.refuses(x, "setOutput(" + index + ", 3)", Check.INDEX, () -> x.setOutput(index, 3));
        }
        for (int output : new int[] {-1, 3, Integer.MAX_VALUE, Integer.MIN_VALUE}) {
            Check.refuses(x, "setOutput(0, " + output + ")", Check.ARGUMENT, () -> x.setOutput(0, output));
        }
        PreimageAnalyzer y = Check.sized(2, 4);
        Check.due("setOutput(15, 1)", 0, y.setOutput(15, 1));
        Check.refuses(y, "setOutput(15, 2)", Check.ARGUMENT, () -> y.setOutput(15, 2));
        Check.refuses(y, "setOutput(16, 1)", Check.INDEX, () -> y.setOutput(16, 1));
    }

    private static void output() {
        PreimageAnalyzer x = Check.numbered(2, 3, 110);
        int[] outputs = {0, 1, 1, 1, 0, 1, 1, 0};
        for (int i = 0; i < 8; i++) {
            Check.due("output(" + i + ")", outputs[i], x.output(i));
        }
        for (int index : new int[] {-1, 8, Integer.MAX_VALUE, Integer.MIN_VALUE}) {
            Check.refuses(x, "output(" + index + ")", Check.INDEX, () -> x.output(index));
        }
        Check.due("the last output of three states", 2, Check.numbered(3, 3, 7625597484986L).output(26));
    }

    private static void setNumber() {
        for (int i = 0; i < SIZES.length; i++) {
            PreimageAnalyzer x = Check.sized(SIZES[i][0], SIZES[i][1]);
            long rules = RULES[i];
            Check.due("setNumber of the last rule", NEIGHBORHOODS[i], x.setNumber(rules - 1));
            Check.due("setNumber again", 0, x.setNumber(rules - 1));
            Check.due("setNumber of the rule before", 1, x.setNumber(rules - 2));
            for (long number : new long[] {rules, -1, Long.MAX_VALUE, Long.MIN_VALUE}) {
                Check.refuses(x, "setNumber(" + number + ")", Check.ARGUMENT, () -> x.setNumber(number));
            }
        }
        PreimageAnalyzer y = Check.numbered(2, 3, 110);
        Check.due("setNumber(30) behind 110", 3, y.setNumber(30));
        Check.due("setNumber(2^32)", "throws java.lang.IllegalArgumentException",
                Check.answer(() -> y.setNumber(1L << 32)));
    }

    private static void number() {
        for (int i = 0; i < SIZES.length; i++) {
            PreimageAnalyzer x = Check.sized(SIZES[i][0], SIZES[i][1]);
            for (long number : new long[] {0, 1, RULES[i] / 3, RULES[i] / 2 + 1, RULES[i] - 1}) {
                x.setNumber(number);
                Check.due("number()", number, x.number());
            }
        }
    }

    private static void mirror() {
        PreimageAnalyzer x = Check.numbered(2, 3, 110);
        Check.due("mirror() of 110", 2, x.mirror());
        Check.due("number()", 124, x.number());
        Check.due("mirror() of 124", 2, x.mirror());
        Check.due("number()", 110, x.number());
        Check.due("mirror() of 90", 0, Check.numbered(2, 3, 90).mirror());
        PreimageAnalyzer y = Check.formed(3, 2, "a");
        Check.due("mirror() of a", 6, y.mirror());
        Check.due("output(1)", 1, y.output(1));
        Check.due("output(3)", 0, y.output(3));
        PreimageAnalyzer z = Check.formed(2, 4, "b");
        Check.due("mirror() of b", 8, z.mirror());
        Check.due("number()", Check.formed(2, 4, "c").number(), z.number());
    }

    private static void complement() {
        PreimageAnalyzer x = Check.numbered(2, 3, 110);
        Check.due("complement() of 110", 6, x.complement());
        Check.due("number()", 137, x.number());
        Check.due("complement() of 0", 8, Check.numbered(2, 3, 0).complement());
        Check.due("complement() of 204", 0, Check.numbered(2, 3, 204).complement());
        PreimageAnalyzer y = Check.formed(3, 2, "min(a,b)");
        Check.due("complement() of min", 6, y.complement());
        Check.due("number()", Check.formed(3, 2, "max(a,b)").number(), y.number());
    }

    private static void leastNumber() {
        long[][] leasts = {{110, 110}, {124, 110}, {137, 110}, {193, 110}, {30, 30}, {86, 30}, {135, 30}, {149, 30},
            {255, 0}, {204, 204}, {150, 150}};
        for (long[] pair : leasts) {
            PreimageAnalyzer x = Check.numbered(2, 3, pair[0]);
            Check.due("leastNumber() of " + pair[0], pair[1], x.leastNumber());
            Check.due("number() afterwards", pair[0], x.number());
        }
        Check.due("leastNumber() of the last rule", 0, Check.numbered(3, 3, 7625597484986L).leastNumber());
    }

    private static void compose() {
        PreimageAnalyzer x = Check.formed(2, 2, "a+b");
        x.setWord(1, 3, 5);
        x.save();
        x.setWord(1, 4, 9);
        Check.due("compose() of a+b with itself", 3, x.compose());
        Check.due("number()", 90, x.number());
        Check.due("the register stays", 9, x.wordIndex(1));
        Check.due("compose() again", 4, x.compose());
        Check.due("number()", Check.formed(2, 4, "a+b+c+d").number(), x.number());
        Check.due("size(2)", 16, x.size(2));
        Check.due("size(3)", 8, x.size(3));
        Check.refuses(x, "compose() beyond the width", Check.STATE, x::compose);
        Check.due("restore()", 6, x.restore());
        Check.due("the register is back", 5, x.wordIndex(1));
        orderOfCompose();
        wrongCompose();
    }

    /** The saved rule comes first: min(a, 1 - (image)) differs from the other order. */
    private static void orderOfCompose() {
        PreimageAnalyzer x = Check.formed(2, 3, "1-b");
        x.save();
        x.setSize(2, 2);
        Check.write(x, "a*b");
        x.compile();
        Check.due("compose() of 2 with 3", 4, x.compose());
        Check.due("number()", Check.formed(2, 4, "(1-b)*(1-c)").number(), x.number());
        PreimageAnalyzer y = Check.formed(3, 2, "a+1");
        y.save();
        Check.write(y, "a*b");
        y.compile();
        Check.due("compose() of three states", 3, y.compose());
        Check.due("number()", Check.formed(3, 3, "(a+1)*(b+1)").number(), y.number());
        Check.refuses(y, "compose() of three states beyond the width", Check.STATE, y::compose);
    }

    private static void wrongCompose() {
        PreimageAnalyzer x = Check.formed(2, 2, "a");
        Check.refuses(x, "compose() without saved rule", Check.STATE, x::compose);
        x.save();
        x.setSize(3, 2);
        x.setNumber(7);
        Check.refuses(x, "compose() with other states", Check.STATE, x::compose);
        x.setSize(2, 4);
        Check.refuses(x, "compose() to width 5", Check.STATE, x::compose);
        x.setSize(2, 3);
        Check.due("compose() to width 4", 4, x.compose());
    }
}

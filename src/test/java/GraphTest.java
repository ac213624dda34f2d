/** Promises 27 to 34: edge, subsets, orphans, shortestOrphan, has, cyclicPairs, inverse, inverseOutput. */
public final class GraphTest {
    private static final int[] FAR = {Integer.MIN_VALUE, Integer.MAX_VALUE};

    public static void main(String[] args) {
        edge();
        subsets();
        orphans();
        shortestOrphan();
        shortestOrphanRefuses();
        surjectiveAndInjective();
        otherProperties();
        cyclicPairs();
        inverse();
        inverseOfAllRules();
        inverseRefuses();
        Check.end();
    }

    private static void edge() {
        PreimageAnalyzer x = Check.numbered(2, 3, 110);
        int[] labels = {0, 1, 1, 1, 0, 1, 1, 0};
        int[] targets = {0, 1, 2, 3, 0, 1, 2, 3};
        for (int i = 0; i < 8; i++) {
            Check.due("the target of " + i, targets[i], x.edge(i / 2, i % 2, 0));
            Check.due("the label of " + i, labels[i], x.edge(i / 2, i % 2, 1));
        }
        PreimageAnalyzer y = Check.formed(3, 3, "a+b-c");
        Check.due("edge(7, 1, 0)", 4, y.edge(7, 1, 0));
        Check.due("edge(7, 1, 1)", 2, y.edge(7, 1, 1));
        Check.due("edge(8, 2, 0)", 8, y.edge(8, 2, 0));
        PreimageAnalyzer z = Check.formed(2, 2, "b");
        Check.due("edge(1, 0, 0)", 0, z.edge(1, 0, 0));
        Check.due("edge(0, 1, 1)", 1, z.edge(0, 1, 1));
        int[][] wrong = {{-1, 0, 0}, {4, 0, 0}, {0, -1, 0}, {0, 2, 0}, {0, 0, -1}, {0, 0, 2}, {FAR[0], 0, 0},
            {FAR[1], 0, 0}, {0, FAR[0], 0}, {0, FAR[1], 0}, {0, 0, FAR[0]}, {0, 0, FAR[1]}};
        for (int[] edge : wrong) {
            Check.refuses(x, "edge(" + edge[0] + ", " + edge[1] + ", " + edge[2] + ")", Check.INDEX,
                    () -> x.edge(edge[0], edge[1], edge[2]));
        }
    }

    private static void subsets() {
        Check.due("subsets() of a constant", 2, Check.numbered(2, 3, 0).subsets());
        Check.due("subsets() of 22", 16, Check.numbered(2, 3, 22).subsets());
        // Each state leads from all nodes to all nodes.
        Check.due("subsets() of a", 1, Check.formed(2, 3, "a").subsets());
        Check.due("subsets() of b of two cells", 3, Check.formed(2, 2, "b").subsets());
        Check.due("subsets() of 5482", 256, Check.numbered(2, 4, 5482).subsets());
        Check.due("subsets() of all subsets", 512, Check.numbered(3, 3, 5986202329676L).subsets());
        Check.due("subsets() of a right permutive rule", 1, Check.formed(3, 3, "a+b+c").subsets());
    }

    private static void orphans() {
        PreimageAnalyzer x = Check.numbered(2, 3, 110);
        int[] counts = {0, 0, 0, 0, 0, 1, 5};
        for (int length = 0; length < counts.length; length++) {
            Check.due("orphans(" + length + ") of 110", counts[length], x.orphans(length));
            Check.due("wordsWith(" + length + ", 0) of 110", counts[length], x.wordsWith(length, 0));
        }
        Check.due("orphans(12) of 110", 1328, x.orphans(12));
        PreimageAnalyzer constant = Check.sized(3, 3);
        Check.due("orphans(0) of a constant", 0, constant.orphans(0));
        Check.due("orphans(1) of a constant", 2, constant.orphans(1));
        Check.due("orphans(12) of a constant", 531440, constant.orphans(12));
        Check.due("orphans(12) of a surjective rule", 0, Check.numbered(2, 3, 90).orphans(12));
        // Counted by trying all words of 14 cells; all 512 sets of nodes can be reached.
        Check.due("orphans(12) with all subsets", 17, Check.numbered(3, 3, 5986202329676L).orphans(12));
        Model model = new Model();
        model.setSize(3, 2);
        model.setNumber(879);
        Check.due("orphans(9) of 879", model.orphans(9), Check.numbered(3, 2, 879).orphans(9));
        for (int length : new int[] {-1, 13, FAR[0], FAR[1]}) {
            Check.refuses(x, "orphans(" + length + ")", Check.ARGUMENT, () -> x.orphans(length));
        }
    }

    private static void orphanIs(int states, int width, long number, int length, int index) {
        PreimageAnalyzer x = Check.numbered(states, width, number);
        x.setWord(2, 3, 1);
        Check.due("shortestOrphan(2) of " + number, length, x.shortestOrphan(2));
        Check.due("wordLength(2)", length, x.wordLength(2));
        Check.due("wordIndex(2)", index, x.wordIndex(2));
        Check.due("preimageCount(2, false)", 0, x.preimageCount(2, false));
        if (length <= 12) {
            Check.due("orphans of this length", true, x.orphans(length) > 0);
            Check.due("orphans of a length less", 0, x.orphans(length - 1));
        }
        for (int i = 0; i < index; i += 1 + index / 64) {
            x.setWord(2, length, i);
            Check.due("a word before it", true, x.preimageCount(2, false) > 0);
        }
    }

    private static void shortestOrphan() {
        orphanIs(2, 3, 110, 5, 10);
        orphanIs(2, 3, 0, 1, 1);
        orphanIs(2, 3, 255, 1, 0);
        orphanIs(2, 3, 37, 9, 297);
        orphanIs(2, 4, 21161, 14, 11741);
        orphanIs(3, 2, 879, 5, 182);
        orphanIs(3, 3, 0, 1, 1);
        orphanIs(3, 3, 1356967941224L, 13, 1471841);
    }

    private static void shortestOrphanRefuses() {
        PreimageAnalyzer x = Check.numbered(2, 3, 90);
        x.setWord(0, 3, 3);
        Check.refuses(x, "shortestOrphan(0) of 90", Check.ELEMENT, () -> x.shortestOrphan(0));
        PreimageAnalyzer y = Check.numbered(2, 4, 5482);
        y.setWord(0, 3, 3);
        Check.refuses(y, "shortestOrphan(0) beyond 14 cells", Check.STATE, () -> y.shortestOrphan(0));
        Check.due("has(0) of the same rule", false, y.has(0));
        PreimageAnalyzer z = Check.numbered(3, 3, 688170544364L);
        Check.refuses(z, "shortestOrphan(0) beyond 14 cells", Check.STATE, () -> z.shortestOrphan(0));
        for (int register : new int[] {-1, 4, FAR[0], FAR[1]}) {
            Check.refuses(x, "shortestOrphan(" + register + ")", Check.INDEX, () -> x.shortestOrphan(register));
            Check.refuses(y, "shortestOrphan(" + register + ")", Check.INDEX, () -> y.shortestOrphan(register));
        }
    }

    private static void surjectiveAndInjective() {
        // Of the 256 rules with two states and width 3, these are surjective, and the first six injective.
        int[] injective = {15, 51, 85, 170, 204, 240};
        int[] surjective = {15, 51, 85, 170, 204, 240, 30, 45, 60, 75, 86, 89, 90, 101, 102, 105, 106, 120, 135, 149,
            150, 153, 154, 165, 166, 169, 180, 195, 210, 225};
        for (int number = 0; number < 256; number++) {
            PreimageAnalyzer x = Check.numbered(2, 3, number);
            Check.due("has(0) of " + number, contains(surjective, number), x.has(0));
            Check.due("has(1) of " + number, contains(injective, number), x.has(1));
        }
        Check.due("has(0) of three states", true, Check.formed(3, 3, "a+b*c").has(0));
        Check.due("has(1) of three states", false, Check.formed(3, 3, "a+b*c").has(1));
        Check.due("has(1) of b+1", true, Check.formed(3, 3, "b+1").has(1));
    }

    private static boolean contains(int[] numbers, int number) {
        for (int each : numbers) {
            if (each == number) {
                return true;
            }
        }
        return false;
    }

    private static void properties(PreimageAnalyzer x, String bits) {
        StringBuilder got = new StringBuilder();
        String before = Check.stateOf(x);
        for (int i = 0; i < 7; i++) {
            got.append(x.has(i) ? 1 : 0);
        }
        Check.due("the properties", bits, got.toString());
        Check.due("the state after has", before, Check.stateOf(x));
        for (int what : new int[] {-1, 7, FAR[0], FAR[1]}) {
            Check.refuses(x, "has(" + what + ")", Check.INDEX, () -> x.has(what) ? 1 : 0);
        }
    }

    private static void otherProperties() {
        properties(Check.sized(2, 3), "0000010");
        properties(Check.formed(2, 3, "a"), "1110101");
        properties(Check.formed(2, 3, "b"), "1100111");
        properties(Check.formed(2, 3, "c"), "1101101");
        properties(Check.formed(2, 3, "a+c"), "1011110");
        properties(Check.formed(2, 3, "a+b+c"), "1011111");
        properties(Check.formed(2, 3, "a+b*c"), "1010100");
        properties(Check.formed(2, 3, "a*b+c"), "1001100");
        properties(Check.formed(2, 3, "a*c+b*c+a*b"), "0000111");
        properties(Check.formed(2, 4, "a+d"), "1011110");
        properties(Check.formed(3, 3, "a+b+c"), "1011110");
        properties(Check.formed(3, 3, "a+2*b+c"), "1011111");
        properties(Check.formed(3, 3, "2*a+c*b"), "1010100");
        properties(Check.formed(3, 2, "min(a,b)"), "0000010");
        // Two of three states are outputs of equally many neighborhoods; the third counts as well.
        PreimageAnalyzer x = Check.sized(2, 2);
        x.setNumber(15);
        properties(x, "0000010");
        PreimageAnalyzer y = Check.sized(3, 3);
        for (int i = 0; i < 26; i++) {
            y.setOutput(i, i % 2);
        }
        Check.due("has(4) without the state 2", false, y.has(4));
    }

    private static void cyclicPairs() {
        Check.due("cyclicPairs() of a constant", 12, Check.sized(2, 3).cyclicPairs());
        Check.due("cyclicPairs() of a constant", 72, Check.sized(3, 3).cyclicPairs());
        Check.due("cyclicPairs() of b+1", 0, Check.formed(3, 3, "b+1").cyclicPairs());
        Check.due("cyclicPairs() of a+b", 2, Check.formed(2, 2, "a+b").cyclicPairs());
        Check.due("cyclicPairs() of a+b", 6, Check.formed(3, 2, "a+b").cyclicPairs());
        Check.due("cyclicPairs() of 193", 8, Check.numbered(2, 3, 193).cyclicPairs());
        for (int number = 0; number < 256; number++) {
            Model model = new Model();
            model.setNumber(number);
            Check.due("cyclicPairs() of " + number, model.cyclicPairs(), Check.numbered(2, 3, number).cyclicPairs());
        }
    }

    /** The inverse has this length and position, and gives the cells of words back from their images. */
    private static void inverseIs(int states, int width, long number, int length, int position) {
        PreimageAnalyzer x = Check.numbered(states, width, number);
        Check.due("inverse(0) of " + number, length, x.inverse(0));
        Check.due("inverse(1) of " + number, position, x.inverse(1));
        int longer = length + width - 1;
        for (int i = 0; i < Model.power(states, longer); i++) {
            PreimageAnalyzer y = Check.numbered(states, width, number);
            y.setWord(0, longer, i);
            int cell = y.cell(0, position);
            y.apply(0, false);
            Check.due("inverseOutput of an image", cell, y.inverseOutput(y.wordIndex(0)));
        }
        for (int index : new int[] {-1, Model.power(states, length), FAR[0], FAR[1]}) {
            Check.refuses(x, "inverseOutput(" + index + ")", Check.INDEX, () -> x.inverseOutput(index));
        }
    }

    private static void inverse() {
        inverseIs(2, 3, 15, 1, 0);
        inverseIs(2, 3, 51, 1, 1);
        inverseIs(2, 3, 170, 1, 2);
        inverseIs(2, 2, 5, 1, 1);
        inverseIs(2, 4, 3915, 4, 2);
        inverseIs(2, 4, 13155, 4, 4);
        inverseIs(3, 2, 481, 2, 0);
        inverseIs(3, 2, 3791, 2, 2);
        inverseIs(3, 3, 3409860962573L, 2, 1);
        inverseIs(3, 3, 7479518722299L, 3, 2);
        inverseIs(3, 3, 277206005791L, 4, 3);
        inverseIs(3, 3, 4399383168795L, 4, 5);
        inverseIs(3, 3, 7378808159385L, 5, 2);
        inverseIs(3, 3, 6501678619707L, 5, 4);
    }

    /** With two states and width 4, an inverse exists for just the injective rules. */
    private static void inverseOfAllRules() {
        for (int number = 0; number < 65536; number++) {
            PreimageAnalyzer x = Check.numbered(2, 4, number);
            boolean found = !Check.answer(() -> x.inverse(0)).startsWith("throws");
            Check.due("an inverse of " + number, x.has(1), found);
        }
    }

    private static void inverseRefuses() {
        for (long number : new long[] {0, 30, 90, 110, 255}) {
            PreimageAnalyzer x = Check.numbered(2, 3, number);
            for (int what : new int[] {-1, 2, FAR[0], FAR[1]}) {
                Check.refuses(x, "inverse(" + what + ")", Check.INDEX, () -> x.inverse(what));
            }
            Check.refuses(x, "inverse(0)", Check.ELEMENT, () -> x.inverse(0));
            Check.refuses(x, "inverse(1)", Check.ELEMENT, () -> x.inverse(1));
            Check.refuses(x, "inverseOutput(0)", Check.ELEMENT, () -> x.inverseOutput(0));
            Check.refuses(x, "inverseOutput(-1)", Check.ELEMENT, () -> x.inverseOutput(-1));
        }
        // An injective rule whose inverse is longer than 5.
        PreimageAnalyzer longer = Check.numbered(3, 3, 5779933715169L);
        Check.due("has(1)", true, longer.has(1));
        Check.refuses(longer, "inverse(0)", Check.ELEMENT, () -> longer.inverse(0));
        Check.refuses(longer, "inverseOutput(0)", Check.ELEMENT, () -> longer.inverseOutput(0));
        PreimageAnalyzer y = Check.numbered(2, 3, 51);
        Check.due("inverseOutput(0) of 51", 1, y.inverseOutput(0));
        y.setNumber(30);
        Check.refuses(y, "inverseOutput(0) of 30 behind 51", Check.ELEMENT, () -> y.inverseOutput(0));
    }
}

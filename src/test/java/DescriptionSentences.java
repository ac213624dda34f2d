/** Tests of the sentences before the promises, but for the paragraphs "Formulas" and "More exactly". */
final class DescriptionSentences {
    private static final String AUTOMATON = "Description: Automaton";
    private static final String IMAGES = "Description: Images";
    private static final String GRAPH = "Description: Graph";
    private static final String SURJECTIVE = "Description: Surjective and injective";
    private static final String INVERSE = "Description: Inverse";
    private static final String REGISTERS = "Description: Registers";
    /** The last cell of a neighborhood, for the widths from 2 on. */
    private static final String LAST_CELLS = "bcd";

    private DescriptionSentences() {
    }

    static String lastCell(int width) {
        return LAST_CELLS.substring(width - 2, width - 1);
    }

    // What it is.

    private static void fiveHundredAndTwelveCalls() {
        Sentences.about("What it is", "An object is used for at most 512 calls after it has been made;");
        PreimageAnalyzer x = new PreimageAnalyzer();
        int before = 0;
        for (int i = 1; i <= 512; i++) {
            int number = 73 * i % 256;
            Check.due("setNumber as call " + i, Integer.bitCount(number ^ before), x.setNumber(number));
            before = number;
        }
        PreimageAnalyzer y = new PreimageAnalyzer();
        y.setSize(3, 3);
        for (int i = 2; i <= 512; i += 3) {
            Check.due("mostPreimages as call " + i, 19683, y.mostPreimages(7));
            Check.due("orphans as call " + (i + 1), 531440, y.orphans(12));
            if (i + 2 <= 512) {
                Check.due("cyclicPairs as call " + (i + 2), 72, y.cyclicPairs());
            }
        }
    }

    private static void lastCallThatIsPromised() {
        Sentences.about("Not promised", "nothing about an object after its 512th call.");
        Model model = new Model();
        model.setNumber(110);
        asCall512("setSize(3, 3)", "27", x -> x.setSize(3, 3));
        asCall512("size(3)", "4", x -> x.size(3));
        asCall512("setOutput(6, 0)", "1", x -> x.setOutput(6, 0));
        asCall512("output(6)", "1", x -> x.output(6));
        asCall512("setNumber(111)", "1", x -> x.setNumber(111));
        asCall512("number()", "110", PreimageAnalyzer::number);
        asCall512("append('b')", "2", x -> x.append('b'));
        asCall512("compile()", "5", PreimageAnalyzer::compile);
        asCall512("error(1)", "-1", x -> x.error(1));
        asCall512("mirror()", "2", PreimageAnalyzer::mirror);
        asCall512("complement()", "6", PreimageAnalyzer::complement);
        asCall512("leastNumber()", "110", PreimageAnalyzer::leastNumber);
        asCall512("compose()", "throws java.lang.IllegalStateException", PreimageAnalyzer::compose);
        asCall512("setWord(0, 14, 5)", "1", x -> x.setWord(0, 14, 5));
        asCall512("wordLength(0)", "1", x -> x.wordLength(0));
        asCall512("wordIndex(0)", "1", x -> x.wordIndex(0));
        asCall512("cell(0, 0)", "1", x -> x.cell(0, 0));
        asCall512("apply(0, true)", "1", x -> x.apply(0, true));
        asCall512("orbit(0, 0)", "1", x -> x.orbit(0, 0));
        asCall512("preimageCount(0, false)", "5", x -> x.preimageCount(0, false));
        asCall512("preimage(0, false, 4, 1)", "6", x -> x.preimage(0, false, 4, 1));
        asCall512("preimagesBetween(0, 0, 1)", "1", x -> x.preimagesBetween(0, 0, 1));
        asCall512("wordsWith(5, 0)", "1", x -> x.wordsWith(5, 0));
        asCall512("mostPreimages(1)", "5", x -> x.mostPreimages(1));
        asCall512("fixedWords(1)", "1", x -> x.fixedWords(1));
        asCall512("edge(1, 1, 1)", "1", x -> x.edge(1, 1, 1));
        asCall512("subsets()", "" + model.subsets(), PreimageAnalyzer::subsets);
        asCall512("orphans(5)", "1", x -> x.orphans(5));
        asCall512("shortestOrphan(0)", "5", x -> x.shortestOrphan(0));
        asCall512("has(0)", "0", x -> x.has(0) ? 1 : 0);
        asCall512("cyclicPairs()", "" + model.cyclicPairs(), PreimageAnalyzer::cyclicPairs);
        asCall512("inverse(0)", "throws java.util.NoSuchElementException", x -> x.inverse(0));
        asCall512("inverseOutput(0)", "throws java.util.NoSuchElementException", x -> x.inverseOutput(0));
        asCall512("save()", "110", PreimageAnalyzer::save);
        asCall512("restore()", "110", PreimageAnalyzer::restore);
    }

    /** The call is the 512th of an object with rule 110, the word 1, the text a, and all of it saved. */
    private static void asCall512(String name, String want, Check.Asking call) {
        PreimageAnalyzer x = new PreimageAnalyzer();
        x.setNumber(110);
        x.setWord(0, 1, 1);
        x.append('a');
        x.save();
        for (int i = 5; i <= 511; i++) {
            x.size(i % 4);
        }
        Check.due(name + " as call 512", want, Check.answer(() -> call.ask(x)));
    }

    // Automaton.

    private static void sizes() {
        Sentences.about(AUTOMATON, "An automaton has k states, 2 or 3, numbered from 0, and a width w, "
                + "2 to 4 for two states and 2 to 3 for three states.");
        for (int states = -2; states <= 6; states++) {
            for (int width = -2; width <= 7; width++) {
                boolean exists = states == 2 && width >= 2 && width <= 4 || states == 3 && width >= 2 && width <= 3;
                int k = states;
                int w = width;
                PreimageAnalyzer x = new PreimageAnalyzer();
                Check.due("setSize(" + k + ", " + w + ")",
                        exists ? "" + Model.power(k, w) : "throws java.lang.IllegalArgumentException",
                        Check.answer(() -> x.setSize(k, w)));
            }
        }
    }

    private static void statesFromZero() {
        Sentences.about(AUTOMATON, "numbered from 0");
        for (int[] size : Check.SIZES) {
            PreimageAnalyzer x = Check.sized(size[0], size[1]);
            for (int state = 0; state < size[0]; state++) {
                x.setOutput(0, state);
                Check.due("number() with the output " + state, state, x.number());
            }
            Check.refuses(x, "setOutput(0, -1)", Check.ARGUMENT, () -> x.setOutput(0, -1));
            Check.refuses(x, "setOutput(0, k)", Check.ARGUMENT, () -> x.setOutput(0, size[0]));
        }
    }

    private static void sizeAtFirst() {
        Sentences.about(AUTOMATON, "At first k = 2 and w = 3.");
        PreimageAnalyzer x = new PreimageAnalyzer();
        Check.due("size(0)", 2, x.size(0));
        Check.due("size(1)", 3, x.size(1));
        Check.due("size(2)", 8, x.size(2));
        Check.due("size(3)", 4, x.size(3));
    }

    private static void firstCellIsMostSignificant() {
        Sentences.about(AUTOMATON, "the first cell being the most significant digit");
        for (int[] size : Check.SIZES) {
            int k = size[0];
            PreimageAnalyzer x = Check.sized(k, size[1]);
            x.setWord(0, 14, Model.power(k, 13));
            x.setWord(1, 14, 1);
            x.setWord(2, 14, Model.power(k, 14) - 1);
            for (int i = 0; i < 14; i++) {
                Check.due("cell(0, " + i + ")", i == 0 ? 1 : 0, x.cell(0, i));
                Check.due("cell(1, " + i + ")", i == 13 ? 1 : 0, x.cell(1, i));
                Check.due("cell(2, " + i + ")", k - 1, x.cell(2, i));
            }
        }
    }

    private static void orderOfWords() {
        Sentences.about(AUTOMATON, "words of the same length are ordered by their indices.");
        for (int[] size : Check.SIZES) {
            PreimageAnalyzer x = Check.sized(size[0], size[1]);
            x.setWord(0, 3, 0);
            int longer = Model.power(size[0], 2 + size[1]);
            for (int i = 0; i < longer; i++) {
                Check.due("preimage " + i + " of 000", i, x.preimage(0, false, i, 1));
            }
            for (int i = 0; i < Model.power(size[0], 3); i++) {
                Check.due("cyclic preimage " + i + " of 000", i, x.preimage(0, true, i, 1));
            }
        }
    }

    private static void outputsAtFirst() {
        Sentences.about(AUTOMATON, "All outputs are 0 at first.");
        PreimageAnalyzer x = new PreimageAnalyzer();
        for (int i = 0; i < 8; i++) {
            Check.due("output(" + i + ")", 0, x.output(i));
        }
        Check.due("number()", 0, x.number());
    }

    private static void numberOfTheRule() {
        Sentences.about(AUTOMATON,
                "The number of the rule is the sum, over all neighborhoods, of output * k^index.");
        long[] greatest = {15, 255, 65535, 19682, 7625597484986L};
        for (int i = 0; i < Check.SIZES.length; i++) {
            int k = Check.SIZES[i][0];
            PreimageAnalyzer x = Check.sized(k, Check.SIZES[i][1]);
            long power = 1;
            for (int index = 0; index < x.size(2); index++) {
                x.setOutput(index, k - 1);
                Check.due("number() with one output " + index, (k - 1) * power, x.number());
                x.setOutput(index, 0);
                power *= k;
            }
            for (int index = 0; index < x.size(2); index++) {
                x.setOutput(index, k - 1);
            }
            Check.due("number() with all outputs k - 1", greatest[i], x.number());
        }
    }

    // Images.

    private static void imageFromTheWidthOn() {
        Sentences.about(IMAGES, "The image of a word of length m >= w is the word of length m - w + 1");
        for (int[] size : Check.SIZES) {
            int w = size[1];
            PreimageAnalyzer x = Check.formed(size[0], w, lastCell(w));
            for (int length = 0; length <= 14; length++) {
                int last = Model.power(size[0], length) - 1;
                x.setWord(0, length, last);
                if (length < w) {
                    Check.refuses(x, "apply of " + length + " cells", Check.STATE, () -> x.apply(0, false));
                } else {
                    Check.due("apply of " + length + " cells", length - w + 1, x.apply(0, false));
                    Check.due("the image of " + length + " cells", Model.power(size[0], length - w + 1) - 1,
                            x.wordIndex(0));
                }
            }
        }
    }

    private static void lastCellOfAnImage() {
        Sentences.about(IMAGES, "whose cell i, counted from 0, is the output of the neighborhood that consists of "
                + "the cells i to i + w - 1.");
        for (int[] size : Check.SIZES) {
            int k = size[0];
            int w = size[1];
            PreimageAnalyzer first = Check.formed(k, w, "a");
            PreimageAnalyzer last = Check.formed(k, w, lastCell(w));
            int word = Model.power(k, 13) + 1;
            first.setWord(0, 14, word);
            first.apply(0, false);
            Check.due("the image by a", Model.power(k, 14 - w), first.wordIndex(0));
            last.setWord(0, 14, word);
            last.apply(0, false);
            Check.due("the image by the last cell", 1, last.wordIndex(0));
        }
    }

    private static void cyclicImageFromOneOn() {
        Sentences.about(IMAGES, "The cyclic image of a word of length m >= 1 is the word of length m");
        for (int[] size : Check.SIZES) {
            PreimageAnalyzer x = Check.formed(size[0], size[1], "a");
            Check.refuses(x, "apply of the empty word", Check.STATE, () -> x.apply(0, true));
            for (int length = 1; length <= 14; length++) {
                int last = Model.power(size[0], length) - 1;
                x.setWord(0, length, last);
                Check.due("apply of " + length + " cells", length, x.apply(0, true));
                Check.due("the image of " + length + " cells", last, x.wordIndex(0));
            }
        }
    }

    private static void cellsModuloLength() {
        Sentences.about(IMAGES, "where the numbers of cells are taken modulo m.");
        for (int[] size : Check.SIZES) {
            int w = size[1];
            PreimageAnalyzer x = Check.formed(size[0], w, lastCell(w));
            for (int length = 1; length <= 14; length++) {
                // The one that stands first comes to stand w - 1 cells before it, from the end on.
                x.setWord(0, length, Model.power(size[0], length - 1));
                x.apply(0, true);
                for (int i = 0; i < length; i++) {
                    Check.due("cell " + i + " of " + length, (i + w - 1) % length == 0 ? 1 : 0, x.cell(0, i));
                }
            }
        }
    }

    private static void preimageOfTheEmptyWord() {
        Sentences.about(IMAGES, "a preimage of the empty word is any word of length w - 1.");
        for (int[] size : Check.SIZES) {
            PreimageAnalyzer x = Check.sized(size[0], size[1]);
            int count = Model.power(size[0], size[1] - 1);
            for (int i = 0; i < count; i++) {
                Check.due("preimage(0, false, " + i + ", 1)", i, x.preimage(0, false, i, 1));
                Check.due("its length", size[1] - 1, x.wordLength(1));
            }
            Check.refuses(x, "preimage behind the last", Check.ELEMENT, () -> x.preimage(0, false, count, 1));
        }
    }

    private static void noCyclicPreimageOfTheEmptyWord() {
        Sentences.about(IMAGES, "A cyclic preimage of a word u that is not empty is a word whose cyclic image is u.");
        for (int[] size : Check.SIZES) {
            PreimageAnalyzer x = Check.sized(size[0], size[1]);
            Check.refuses(x, "preimage of the empty word", Check.ELEMENT, () -> x.preimage(0, true, 0, 1));
            x.setWord(0, 1, 0);
            for (int i = 0; i < size[0]; i++) {
                Check.due("preimage of one cell", i, x.preimage(0, true, i, 1));
                Check.due("its length", 1, x.wordLength(1));
            }
        }
    }

    private static void emptyWordIsNoOrphan() {
        Sentences.about(IMAGES, "An orphan is a word without preimage.");
        for (int[] size : Check.SIZES) {
            PreimageAnalyzer x = Check.sized(size[0], size[1]);
            Check.due("orphans(0)", 0, x.orphans(0));
            Check.due("orphans(1)", size[0] - 1, x.orphans(1));
        }
    }

    // Graph.

    private static void nodes() {
        Sentences.about(GRAPH, "A node is a word of length w - 1; there are n = k^(w - 1) nodes, "
                + "and their numbers are their indices.");
        int[] counts = {2, 4, 8, 3, 9};
        for (int i = 0; i < Check.SIZES.length; i++) {
            PreimageAnalyzer x = Check.formed(Check.SIZES[i][0], Check.SIZES[i][1], "a");
            int n = counts[i];
            Check.due("size(3)", n, x.size(3));
            // The label is the first cell of the node.
            Check.due("the label of the first node", 0, x.edge(0, 0, 1));
            Check.due("the label of the last node", Check.SIZES[i][0] - 1, x.edge(n - 1, 0, 1));
            Check.refuses(x, "edge behind the last node", Check.INDEX, () -> x.edge(n, 0, 1));
        }
    }

    private static void edgesWithoutFirstCell() {
        Sentences.about(GRAPH, "For a node v and a state s, there is an edge from v to the node that consists of "
                + "the cells of v without the first one, followed by s.");
        for (int[] size : Check.SIZES) {
            int k = size[0];
            PreimageAnalyzer x = Check.sized(k, size[1]);
            int last = x.size(3) - 1;
            Check.due("from the first node to itself", 0, x.edge(0, 0, 0));
            Check.due("from the last node to itself", last, x.edge(last, k - 1, 0));
            Check.due("from the last node by 0", last - (k - 1), x.edge(last, 0, 0));
            Check.due("from the first node by k - 1", k - 1, x.edge(0, k - 1, 0));
        }
        // With width 2 nothing is left of the node.
        for (int state = 0; state < 3; state++) {
            Check.due("with width 2", state, Check.sized(3, 2).edge(1, state, 0));
        }
    }

    private static void labelsOfEdges() {
        Sentences.about(GRAPH,
                "Its label is the output of the neighborhood that consists of the cells of v followed by s.");
        for (int[] size : Check.SIZES) {
            PreimageAnalyzer x = Check.sized(size[0], size[1]);
            int last = x.size(2) - 1;
            x.setOutput(last, 1);
            Check.due("the label of the last edge", 1, x.edge(x.size(3) - 1, size[0] - 1, 1));
            Check.due("the label of the first edge", 0, x.edge(0, 0, 1));
            x.setOutput(last, 0);
            x.setOutput(0, 1);
            Check.due("the label of the last edge", 0, x.edge(x.size(3) - 1, size[0] - 1, 1));
            Check.due("the label of the first edge", 1, x.edge(0, 0, 1));
        }
    }

    private static void zeroSuccessors() {
        Sentences.about(GRAPH, "by taking successors zero or more times.");
        for (int[] size : Check.SIZES) {
            // By the last cell, each state leads to the nodes that end with it: after zero steps all nodes, then
            // after each step those that end with the steps' labels.
            int subsets = 0;
            for (int length = 0; length < size[1]; length++) {
                subsets += Model.power(size[0], length);
            }
            Check.due("subsets() of the last cell", subsets,
                    Check.formed(size[0], size[1], lastCell(size[1])).subsets());
            Check.due("subsets() of a", 1, Check.formed(size[0], size[1], "a").subsets());
        }
    }

    // Surjective and injective.

    private static void surjectiveWithoutOrphans() {
        Sentences.about(SURJECTIVE, "The automaton is surjective if there are no orphans.");
        for (int[] size : Check.SIZES) {
            Check.due("has(0) of a constant", false, Check.sized(size[0], size[1]).has(0));
            Check.due("has(0) of a", true, Check.formed(size[0], size[1], "a").has(0));
        }
        // The shortest orphans of these rules are longer than orphans can count and registers can hold.
        PreimageAnalyzer x = Check.numbered(2, 4, 5482);
        PreimageAnalyzer y = Check.numbered(3, 3, 2178000111700L);
        Check.due("orphans(12)", 0, x.orphans(12));
        Check.due("has(0)", false, x.has(0));
        Check.due("orphans(12)", 0, y.orphans(12));
        Check.due("has(0)", false, y.has(0));
    }

    private static void atLeastOneStep() {
        Sentences.about(SURJECTIVE, "and so on, at least one step, that lead back to (p, q);");
        for (int[] size : Check.SIZES) {
            // No pair comes back; with no step at all each would.
            Check.due("cyclicPairs() of a", 0, Check.formed(size[0], size[1], "a").cyclicPairs());
            // All pairs come back.
            int n = Model.power(size[0], size[1] - 1);
            Check.due("cyclicPairs() of a constant", n * (n - 1), Check.sized(size[0], size[1]).cyclicPairs());
        }
        // The loops at 0 and at 1 have the label 0, so one step leads from (0, 1) back to it.
        Check.due("cyclicPairs() of a+b", 2, Check.formed(2, 2, "a+b").cyclicPairs());
    }

    private static void equalNodesInBetween() {
        Sentences.about(SURJECTIVE, "here the nodes of the pairs in between may be equal.");
        // Without ways through equal nodes there would be none with rules 35, 1007 and 350, and fewer with the others.
        Check.due("cyclicPairs() of 35", 4, Check.numbered(2, 3, 35).cyclicPairs());
        Check.due("cyclicPairs() of 1007", 12, Check.numbered(2, 4, 1007).cyclicPairs());
        Check.due("cyclicPairs() of 350", 2, Check.numbered(3, 2, 350).cyclicPairs());
        Check.due("cyclicPairs() of 12", 6, Check.numbered(2, 3, 12).cyclicPairs());
        Check.due("cyclicPairs() of 43", 4, Check.numbered(3, 2, 43).cyclicPairs());
    }

    private static void injectiveWithoutPairs() {
        Sentences.about(SURJECTIVE, "The automaton is injective if no pair of different nodes is on a cycle.");
        for (int[] size : Check.SIZES) {
            // Pairs of equal nodes are always on cycles; they do not count.
            Check.due("has(1) of a", true, Check.formed(size[0], size[1], "a").has(1));
            Check.due("has(1) of a constant", false, Check.sized(size[0], size[1]).has(1));
        }
        Check.due("has(1) with two pairs", false, Check.formed(2, 2, "a+b").has(1));
        Check.due("has(1) with ways through equal nodes alone", false, Check.numbered(2, 3, 35).has(1));
    }

    private static void leftPermutive() {
        Sentences.about(SURJECTIVE, "It is left permutive if for all cells x2, ..., xw the outputs of the "
                + "neighborhoods (0, x2, ..., xw) to (k - 1, x2, ..., xw) are different");
        permutive(2, "a");
    }

    private static void rightPermutive() {
        Sentences.about(SURJECTIVE, "and right permutive if the same holds for the last cell.");
        permutive(3, "");
    }

    /** The rule that answers the cell, or the last one, has this property alone, and no more if an output changes. */
    private static void permutive(int property, String cell) {
        for (int[] size : Check.SIZES) {
            String formula = cell.isEmpty() ? lastCell(size[1]) : cell;
            PreimageAnalyzer x = Check.formed(size[0], size[1], formula);
            for (int what = 2; what <= 3; what++) {
                Check.due("has(" + what + ") of " + formula, what == property, x.has(what));
            }
            for (int index = 0; index < x.size(2); index++) {
                int before = x.output(index);
                x.setOutput(index, before == 0 ? 1 : before - 1);
                Check.due("has with another output " + index, false, x.has(property));
                x.setOutput(index, before);
            }
            Check.due("has again", true, x.has(property));
        }
    }

    // Inverse.

    private static void lengthOfAnInverse() {
        Sentences.about(INVERSE, "An inverse of length m at position p, where 1 <= m <= 5");
        Check.due("the least length", 1, Check.numbered(2, 3, 204).inverse(0));
        Check.due("the greatest length", 5, Check.numbered(3, 3, 7378808159385L).inverse(0));
        // Words of 6 cells would be enough to tell a cell.
        PreimageAnalyzer longer = Check.numbered(3, 3, 5779933715169L);
        Check.due("has(1)", true, longer.has(1));
        Check.refuses(longer, "inverse(0)", Check.ELEMENT, () -> longer.inverse(0));
        Check.refuses(longer, "inverse(1)", Check.ELEMENT, () -> longer.inverse(1));
        Check.refuses(longer, "inverseOutput(0)", Check.ELEMENT, () -> longer.inverseOutput(0));
    }

    private static void positionOfAnInverse() {
        Sentences.about(INVERSE, "and 0 <= p <= m + w - 2");
        for (int[] size : Check.SIZES) {
            Check.due("inverse(1) of a", 0, Check.formed(size[0], size[1], "a").inverse(1));
            Check.due("inverse(1) of the last cell", size[1] - 1,
                    Check.formed(size[0], size[1], lastCell(size[1])).inverse(1));
        }
        Check.due("the least position of length 2", 0, Check.numbered(3, 2, 481).inverse(1));
        Check.due("the greatest position of length 2", 2, Check.numbered(3, 2, 3791).inverse(1));
    }

    private static void sameImageSameState() {
        Sentences.about(INVERSE, "exists if any two words of length m + w - 1 with the same image have the same state "
                + "in their cell p, and each word of length m is such an image.");
        // One output away from the identity, two words with the same image differ everywhere.
        PreimageAnalyzer x = Check.formed(2, 3, "b");
        Check.due("inverse(0) of b", 1, x.inverse(0));
        for (int index = 0; index < 8; index++) {
            int before = x.output(index);
            x.setOutput(index, 1 - before);
            Check.refuses(x, "inverse(0) with another output " + index, Check.ELEMENT, () -> x.inverse(0));
            x.setOutput(index, before);
        }
        for (int[] size : Check.SIZES) {
            PreimageAnalyzer constant = Check.sized(size[0], size[1]);
            Check.refuses(constant, "inverse(0) of a constant", Check.ELEMENT, () -> constant.inverse(0));
        }
    }

    private static void inverseOfEachWord() {
        Sentences.about(INVERSE, "It assigns this state to each word of length m.");
        PreimageAnalyzer x = Check.numbered(3, 3, 7378808159385L);
        int position = x.inverse(1);
        for (int index = 0; index < 243; index++) {
            x.setWord(0, 5, index);
            x.preimage(0, false, 0, 1);
            Check.due("inverseOutput(" + index + ")", x.cell(1, position), x.inverseOutput(index));
        }
    }

    /** With the least length just one position is possible, so that the least position is that one. */
    private static void leastInverse() {
        Sentences.about(INVERSE,
                "The inverse that counts is the one with the least m and, among these, the least p.");
        // With two cells, the images of the identity of width 3 give the cells 1 and 2, with three cells 1 to 3.
        PreimageAnalyzer x = Check.formed(2, 3, "b");
        Check.due("inverse(0) of b", 1, x.inverse(0));
        Check.due("inverse(1) of b", 1, x.inverse(1));
        PreimageAnalyzer y = Check.numbered(3, 3, 277206005791L);
        Check.due("inverse(0)", 4, y.inverse(0));
        Check.due("inverse(1)", 3, y.inverse(1));
    }

    // Registers.

    private static void fourRegisters() {
        Sentences.about(REGISTERS, "There are 4 registers, numbered 0 to 3.");
        PreimageAnalyzer x = new PreimageAnalyzer();
        for (int register = 0; register < 4; register++) {
            Check.due("setWord(" + register + ", 4, ..)", 0, x.setWord(register, 4, 5 + register));
        }
        for (int register = 0; register < 4; register++) {
            Check.due("wordIndex(" + register + ")", 5 + register, x.wordIndex(register));
        }
        Check.refusesOutside(x, 0, 3, "wordLength", Check.INDEX, x::wordLength);
    }

    private static void lengthsOfWords() {
        Sentences.about(REGISTERS, "Each holds a word of length 0 to 14, the empty word at first.");
        PreimageAnalyzer x = new PreimageAnalyzer();
        for (int register = 0; register < 4; register++) {
            int each = register;
            Check.due("wordLength at first", 0, x.wordLength(register));
            Check.due("wordIndex at first", 0, x.wordIndex(register));
            Check.due("setWord of 14 cells", 0, x.setWord(register, 14, 16383));
            Check.due("wordLength of 14 cells", 14, x.wordLength(register));
            Check.refusesOutside(x, 0, 14, "setWord", Check.ARGUMENT, length -> x.setWord(each, length, 0));
            Check.due("setWord of no cells", 14, x.setWord(register, 0, 0));
            Check.due("wordLength of no cells", 0, x.wordLength(register));
        }
    }
}

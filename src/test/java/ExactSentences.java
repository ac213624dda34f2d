/** Tests of the sentences of the document's paragraph "More exactly". */
final class ExactSentences {
    private static final String EXACTLY = "Description: More exactly";

    private ExactSentences() {
    }

    private static void preimagesOfTheEmptyWord() {
        Sentences.about(EXACTLY, "Preimages of the empty word are the words of length w - 1;");
        int[] counts = {2, 4, 8, 3, 9};
        for (int i = 0; i < Check.SIZES.length; i++) {
            // The rule does not matter.
            for (String formula : new String[] {"0", "a", "1"}) {
                PreimageAnalyzer x = Check.formed(Check.SIZES[i][0], Check.SIZES[i][1], formula);
                Check.due("preimageCount(0, false)", counts[i], x.preimageCount(0, false));
                Check.due("wordsWith(0, n)", 1, x.wordsWith(0, counts[i]));
                Check.due("mostPreimages(0)", counts[i], x.mostPreimages(0));
                Check.due("the last preimage", counts[i] - 1, x.preimage(0, false, counts[i] - 1, 0));
                Check.due("its length", Check.SIZES[i][1] - 1, x.wordLength(0));
            }
        }
    }

    private static void emptyWordBetweenNodes() {
        Sentences.about(EXACTLY, "between two nodes it has one preimage if they are the same, otherwise none.");
        for (int[] size : Check.SIZES) {
            PreimageAnalyzer x = Check.formed(size[0], size[1], "a");
            for (int first = 0; first < x.size(3); first++) {
                for (int last = 0; last < x.size(3); last++) {
                    Check.due("preimagesBetween(0, " + first + ", " + last + ")", first == last ? 1 : 0,
                            x.preimagesBetween(0, first, last));
                }
            }
        }
    }

    private static void shorterThanTheWidth() {
        Sentences.about(EXACTLY, "A word that is shorter than w has no image;");
        for (int[] size : Check.SIZES) {
            PreimageAnalyzer x = Check.sized(size[0], size[1]);
            for (int length = 0; length < size[1]; length++) {
                x.setWord(2, length, 0);
                Check.refuses(x, "apply of " + length + " cells", Check.STATE, () -> x.apply(2, false));
            }
            x.setWord(2, size[1], 0);
            Check.due("apply of w cells", 1, x.apply(2, false));
        }
    }

    private static void cyclicImagesOfShortWords() {
        Sentences.about(EXACTLY,
                "in a cyclic image, cells are taken modulo the length, also if it is less than w.");
        for (int[] size : Check.SIZES) {
            int k = size[0];
            for (int neighborhood = 0; neighborhood < Model.power(k, size[1]); neighborhood++) {
                PreimageAnalyzer x = Check.sized(k, size[1]);
                x.setOutput(neighborhood, 1);
                for (int length = 1; length <= size[1]; length++) {
                    imagesModuloLength(x, length, neighborhood);
                }
            }
        }
    }

    /** The neighborhood is the only one with the output 1. */
    private static void imagesModuloLength(PreimageAnalyzer x, int length, int neighborhood) {
        int k = x.size(0);
        for (int index = 0; index < Model.power(k, length); index++) {
            x.setWord(0, length, index);
            int[] cells = new int[length];
            for (int i = 0; i < length; i++) {
                cells[i] = x.cell(0, i);
            }
            int image = 0;
            for (int i = 0; i < length; i++) {
                int[] around = new int[x.size(1)];
                for (int j = 0; j < around.length; j++) {
                    around[j] = cells[(i + j) % length];
                }
                image = image * k + (Check.index(k, around) == neighborhood ? 1 : 0);
            }
            x.apply(0, true);
            Check.due("the image of " + index + " of " + length + " cells", image, x.wordIndex(0));
        }
    }

    private static void statesWithoutNeighborhood() {
        Sentences.about(EXACTLY, "For property 4, states that are the output of no neighborhood count as well.");
        for (int[] size : Check.SIZES) {
            for (int state = 0; state < size[0]; state++) {
                // All neighborhoods have one output, so the other states have none.
                PreimageAnalyzer x = Check.formed(size[0], size[1], "" + state);
                Check.due("has(4) of the constant " + state, false, x.has(4));
            }
            Check.due("has(4) of a", true, Check.formed(size[0], size[1], "a").has(4));
        }
        Check.due("has(4) without the state 2", false, Check.formed(3, 2, "a%2").has(4));
        Check.due("has(4) without the state 1", false, Check.formed(3, 3, "a/2*2").has(4));
    }

    private static void setOfAllNodes() {
        Sentences.about(EXACTLY, "The set of all nodes counts among the subsets, also if no other leads to it.");
        // By b, a state leads to the node that ends with it alone.
        Check.due("subsets() of b, two states", 3, Check.formed(2, 2, "b").subsets());
        Check.due("subsets() of b, three states", 4, Check.formed(3, 2, "b").subsets());
        Check.due("subsets() of c", 7, Check.formed(2, 3, "c").subsets());
        // Here it leads to itself.
        Check.due("subsets() of a", 1, Check.formed(2, 3, "a").subsets());
        Check.due("subsets() of a constant", 2, Check.sized(2, 3).subsets());
    }

    private static void countZeroCountsOrphans() {
        Sentences.about(EXACTLY, "wordsWith with the count 0 counts orphans;");
        long[][] rules = {{2, 2, 1}, {2, 3, 110}, {2, 4, 27030}, {3, 2, 879}, {3, 3, 7625597484986L}};
        for (long[] rule : rules) {
            PreimageAnalyzer x = Check.numbered((int) rule[0], (int) rule[1], rule[2]);
            for (int length = 0; length <= 7; length++) {
                Check.due("wordsWith(" + length + ", 0)", x.orphans(length), x.wordsWith(length, 0));
            }
        }
        Check.due("wordsWith(5, 0) of 110", 1, Check.numbered(2, 3, 110).wordsWith(5, 0));
        Check.due("wordsWith(0, 0) of 110", 0, Check.numbered(2, 3, 110).wordsWith(0, 0));
        Check.due("wordsWith(7, 0) of a constant", 2186, Check.sized(3, 3).wordsWith(7, 0));
    }

    private static void countsThatNoWordHas() {
        Sentences.about(EXACTLY, "for counts that no word has it is 0.");
        // All words have 4 preimages.
        PreimageAnalyzer x = Check.numbered(2, 3, 90);
        for (int length = 0; length <= 7; length++) {
            for (int count : new int[] {Integer.MIN_VALUE, -4, -1, 0, 3, 5, 8, 512, Integer.MAX_VALUE}) {
                Check.due("wordsWith(" + length + ", " + count + ")", 0, x.wordsWith(length, count));
            }
            Check.due("wordsWith(" + length + ", 4)", 1 << length, x.wordsWith(length, 4));
        }
    }

    private static void ownCyclicImagesOfAnyLength() {
        Sentences.about(EXACTLY, "Words of any length from 1 on can be their own cyclic images.");
        for (int[] size : Check.SIZES) {
            PreimageAnalyzer x = Check.formed(size[0], size[1], "a");
            for (int length = 1; length <= 8; length++) {
                Check.due("fixedWords(" + length + ") of a", Model.power(size[0], length), x.fixedWords(length));
            }
            for (int length = 1; length <= 14; length++) {
                int index = Model.power(size[0], length) - 2;
                x.setWord(0, length, index);
                x.apply(0, true);
                Check.due("the cyclic image of " + length + " cells by a", index, x.wordIndex(0));
            }
        }
        // In words that are shorter than the width, a cell behind the end is one at the beginning.
        Check.due("fixedWords(1) of the last cell", 2, Check.formed(2, 4, "d").fixedWords(1));
        Check.due("fixedWords(2) of the third cell", 4, Check.formed(2, 4, "c").fixedWords(2));
        Check.due("fixedWords(3) of the fourth cell", 8, Check.formed(2, 4, "d").fixedWords(3));
    }

    private static void tableAfterCompileThrows() {
        Sentences.about(EXACTLY, "If compile throws an exception, the table stays as it was.");
        for (int[] size : Check.SIZES) {
            int last = Model.power(size[0], size[1]) - 1;
            // The last two fail for the last neighborhood alone, when all others have their new output.
            String[] texts = {"", "#", "a+", "1+#", "a/0", "1%0", allGreatest(size, "/"), allGreatest(size, "%")};
            for (String text : texts) {
                PreimageAnalyzer x = Check.sized(size[0], size[1]);
                x.setOutput(1, 1);
                x.setOutput(last, 1);
                long number = x.number();
                Check.write(x, text);
                Check.due("compile() of " + text, true, Check.answer(x::compile).startsWith("throws"));
                Check.due("number() after " + text, number, x.number());
            }
        }
    }

    /** A formula that divides by 0 for the last neighborhood alone. */
    private static String allGreatest(int[] size, String operator) {
        String sum = "a+b+c+d".substring(0, 2 * size[1] - 1);
        return "1" + operator + "((" + sum + ")-" + (size[0] - 1) * size[1] + ")";
    }

    private static void lettersOneByOne() {
        Sentences.about(EXACTLY, "In a text, the letters of min and max are read one by one, and the place of the "
                + "error is that of the letter at which it cannot go on;");
        FormulaCheck.faults(2, 3, "mxn(a,b)", 1, 1);
        FormulaCheck.faults(2, 3, "mim(a,b)", 1, 2);
        FormulaCheck.faults(2, 3, "max!", 1, 3);
        FormulaCheck.faults(2, 3, "mina", 1, 3);
        FormulaCheck.faults(2, 3, "min1", 1, 3);
        FormulaCheck.faults(2, 3, "minn(a,b)", 1, 3);
        FormulaCheck.faults(2, 3, "maxmin", 1, 3);
        FormulaCheck.faults(2, 3, "min", 2, 3);
        FormulaCheck.faults(2, 3, "max", 2, 3);
        FormulaCheck.faults(2, 3, "a*mi+", 1, 4);
        // The a of max is a letter here and no cell, so that its end is an early one.
        FormulaCheck.faults(2, 3, "ma", 2, 2);
        FormulaCheck.faults(2, 3, "ma+b", 1, 2);
        // Parts of a text come with several calls.
        PreimageAnalyzer x = Check.sized(2, 2);
        x.append(Check.pack("m"));
        x.append(Check.pack("in(a"));
        x.append(Check.pack(",b)"));
        Check.due("compile() of min(a,b)", 1, x.compile());
    }

    private static void emptyText() {
        Sentences.about(EXACTLY, "an empty text is an error of kind 2 at 0;");
        FormulaCheck.faults(2, 2, "", 2, 0);
        FormulaCheck.faults(3, 3, "", 2, 0);
        PreimageAnalyzer x = Check.formed(2, 3, "a");
        // What was compiled before is no longer in the buffer.
        Check.fails("compile() again", Check.ARGUMENT, x::compile);
        Check.due("error(0)", 2, x.error(0));
        Check.due("error(1)", 0, x.error(1));
        x.append(0);
        Check.fails("compile() behind append(0)", Check.ARGUMENT, x::compile);
        Check.due("error(1)", 0, x.error(1));
    }

    private static void lettersWhereNoCellCouldStand() {
        Sentences.about(EXACTLY, "where no cell could stand, a letter is an error of kind 1;");
        FormulaCheck.faults(2, 2, "ac", 1, 1);
        FormulaCheck.faults(2, 2, "1d", 1, 1);
        FormulaCheck.faults(2, 2, "(a)d", 1, 3);
        FormulaCheck.faults(2, 3, "a=bd", 1, 3);
        FormulaCheck.faults(2, 3, "ad", 1, 1);
        FormulaCheck.faults(2, 4, "ad", 1, 1);
        FormulaCheck.faults(2, 2, "md", 1, 1);
        FormulaCheck.faults(2, 2, "mid", 1, 2);
        FormulaCheck.faults(2, 2, "mad", 1, 2);
        FormulaCheck.faults(2, 2, "mind", 1, 3);
        FormulaCheck.faults(2, 2, "min(a,b)d", 1, 8);
        FormulaCheck.faults(2, 2, "ax", 1, 1);
        // Where a cell could stand, a letter that is no cell is of kind 1 as well, a cell beyond the width is not.
        FormulaCheck.faults(2, 2, "a+x", 1, 2);
        FormulaCheck.faults(2, 2, "a+d", 3, 2);
    }

    private static void secondComparison() {
        Sentences.about(EXACTLY, "a second = or < is an error.");
        FormulaCheck.faults(2, 3, "a=b=c", 1, 3);
        FormulaCheck.faults(2, 3, "a=b<c", 1, 3);
        FormulaCheck.faults(2, 3, "a<b=c", 1, 3);
        FormulaCheck.faults(2, 3, "a<b<c", 1, 3);
        FormulaCheck.faults(2, 3, "a==b", 1, 2);
        FormulaCheck.faults(2, 3, "a<=b", 1, 2);
        FormulaCheck.faults(2, 3, "a=b+c*a=b", 1, 7);
        FormulaCheck.faults(2, 3, "(a=b=c)", 1, 4);
        FormulaCheck.faults(2, 3, "min(a=b<c,1)", 1, 7);
        FormulaCheck.faults(2, 3, "min(1,a<b=c)", 1, 9);
        FormulaCheck.faults(2, 3, "a=(b=c)=a", 1, 7);
        // Another formula inside has a comparison of its own.
        FormulaCheck.gives(2, 2, "(a=b)=(b=a)", "1111");
        FormulaCheck.gives(2, 2, "a=min(a=b,a<b)", "1100");
    }

    private static void remainderWithOverflow() {
        Sentences.about(EXACTLY,
                "The result of a formula is the remainder that is not negative, computed with overflow.");
        // 9^10 is 3486784401, as an int -808182895: the remainder by 3 is -1 and gives 2.
        FormulaCheck.gives(3, 2, "9*9*9*9*9*9*9*9*9*9", "222222222");
        // 2^31 is the least int, whose remainder by 3 is -2 and gives 1; without overflow it would give 2.
        FormulaCheck.gives(3, 2, "8*8*8*8*8*8*8*8*8*8*2", "111111111");
        FormulaCheck.gives(2, 2, "8*8*8*8*8*8*8*8*8*8*2", "0000");
        FormulaCheck.gives(2, 2, "8*8*8*8*8*8*8*8*8*8*2-1", "1111");
        FormulaCheck.gives(2, 2, "8*8*8*8*8*8*8*8*8*8*2+1", "1111");
        FormulaCheck.gives(3, 2, "0-1", "222222222");
        FormulaCheck.gives(2, 2, "0-1", "1111");
    }

    private static void restoringTheRegisters() {
        Sentences.about(EXACTLY, "Restoring brings back the registers with their words.");
        PreimageAnalyzer x = new PreimageAnalyzer();
        int[] lengths = {14, 0, 1, 8};
        int[] indices = {16383, 0, 1, 200};
        for (int i = 0; i < 4; i++) {
            x.setWord(i, lengths[i], indices[i]);
        }
        x.save();
        x.apply(0, false);
        x.setWord(1, 3, 3);
        x.apply(2, true);
        x.setSize(3, 3);
        x.setWord(3, 14, 4782968);
        x.restore();
        for (int i = 0; i < 4; i++) {
            Check.due("wordLength(" + i + ")", lengths[i], x.wordLength(i));
            Check.due("wordIndex(" + i + ")", indices[i], x.wordIndex(i));
        }
    }

    private static void tooLongBeforeNumber() {
        Sentences.about(EXACTLY, "In preimage, whether the preimages are too long is looked at before whether there is "
                + "such a number.");
        for (int[] size : Check.SIZES) {
            PreimageAnalyzer x = Check.sized(size[0], size[1]);
            x.setWord(0, 16 - size[1], 0);
            x.setWord(1, 16 - size[1], 1);
            for (int number : new int[] {Integer.MIN_VALUE, -1, Integer.MAX_VALUE}) {
                Check.refuses(x, "preimage " + number, Check.STATE, () -> x.preimage(0, false, number, 2));
            }
            // This word has no preimages at all.
            Check.refuses(x, "preimage of an orphan", Check.STATE, () -> x.preimage(1, false, 0, 2));
            x.setWord(1, 15 - size[1], 1);
            Check.refuses(x, "preimage of 14 cells", Check.ELEMENT, () -> x.preimage(1, false, 0, 2));
        }
    }
}

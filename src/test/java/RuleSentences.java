/** Tests of the sentences of promises 1 to 14. */
final class RuleSentences {
    private static final long[] RULES = {16, 256, 65536, 19683, 7625597484987L};

    private RuleSentences() {
    }

    // Promise 1.

    private static void newObject() {
        Sentences.about("Promise 1", "Creates an automaton with two states, width 3 and all outputs 0, "
                + "with empty registers and an empty buffer.");
        PreimageAnalyzer x = new PreimageAnalyzer();
        Check.due("size(0)", 2, x.size(0));
        Check.due("size(1)", 3, x.size(1));
        for (int i = 0; i < 8; i++) {
            Check.due("output(" + i + ")", 0, x.output(i));
        }
        for (int i = 0; i < 4; i++) {
            Check.due("wordLength(" + i + ")", 0, x.wordLength(i));
        }
        Check.due("append(0)", 0, x.append(0));
        // What others did before is nothing to a new object.
        x.setNumber(255);
        x.setWord(0, 3, 3);
        x.append('a');
        x.save();
        Check.due("another new object", "2 3 8 4 00000000 0:0 0:0 0:0 0:0 0 0 -1",
                Check.stateOf(new PreimageAnalyzer()));
    }

    // Promise 2: setSize.

    private static void outputsAndRegistersAfterSetSize() {
        Sentences.about("Promise 2", "All outputs become 0, and all registers become empty.");
        for (int[] before : Check.SIZES) {
            for (int[] after : Check.SIZES) {
                PreimageAnalyzer x = Check.formed(before[0], before[1], "1");
                for (int i = 0; i < 4; i++) {
                    x.setWord(i, 14, 1);
                }
                x.setSize(after[0], after[1]);
                Check.due("number() after setSize", 0, x.number());
                for (int i = 0; i < x.size(2); i++) {
                    Check.due("output(" + i + ") after setSize", 0, x.output(i));
                }
                for (int i = 0; i < 4; i++) {
                    Check.due("wordLength after setSize", 0, x.wordLength(i));
                    Check.due("wordIndex after setSize", 0, x.wordIndex(i));
                }
            }
        }
    }

    private static void whatSetSizeLeaves() {
        Sentences.about("Promise 2", "Sets the number of states and the width. All outputs become 0, and all registers "
                + "become empty.");
        PreimageAnalyzer x = Check.formed(2, 3, "b");
        x.setWord(1, 3, 6);
        x.save();
        Check.write(x, "a+d");
        Check.answer(x::compile);
        Check.write(x, "b-c");
        // The sentence names neither the buffer, nor the error, nor what is saved, so they stay.
        x.setSize(3, 2);
        Check.due("append(0) behind setSize", 3, x.append(0));
        Check.due("error(0) behind setSize", 3, x.error(0));
        Check.due("error(1) behind setSize", 2, x.error(1));
        // The formula is read with the width that holds when it is compiled.
        Check.fails("compile() of b-c with width 2", Check.ARGUMENT, x::compile);
        Check.due("error(0) of b-c with width 2", 3, x.error(0));
        Check.write(x, "b-c");
        x.setSize(3, 3);
        Check.due("compile() of b-c with width 3", 18, x.compile());
        Check.due("restore() behind setSize", 204, x.restore());
        Check.due("wordIndex(1) behind restore()", 6, x.wordIndex(1));
    }

    private static void neighborhoodsOfSetSize() {
        Sentences.about("Promise 2", "Returns the number of neighborhoods.");
        int[] counts = {4, 8, 16, 9, 27};
        PreimageAnalyzer x = new PreimageAnalyzer();
        for (int i = 0; i < counts.length; i++) {
            Check.due("setSize", counts[i], x.setSize(Check.SIZES[i][0], Check.SIZES[i][1]));
        }
    }

    private static void noSuchAutomata() {
        Sentences.about("Promise 2", "Throws `IllegalArgumentException` if there are no automata with this number of "
                + "states and this width");
        PreimageAnalyzer x = Check.numbered(3, 2, 77);
        x.setWord(1, 3, 20);
        int[][] wrong = {{2, 1}, {2, 5}, {3, 1}, {3, 4}, {1, 2}, {1, 3}, {4, 2}, {4, 3}, {0, 0}, {-2, 3}, {2, -3},
            {Integer.MAX_VALUE, 3}, {2, Integer.MAX_VALUE}, {Integer.MIN_VALUE, 3}, {3, Integer.MIN_VALUE},
            {258, 3}, {2, 259}, {65538, 65539}};
        for (int[] size : wrong) {
            Check.refuses(x, "setSize(" + size[0] + ", " + size[1] + ")", Check.ARGUMENT,
                    () -> x.setSize(size[0], size[1]));
        }
    }

    // Promise 3: size.

    private static void sizes() {
        Sentences.about("Promise 3", "0 for the number of states, 1 for the width, 2 for the number of neighborhoods, "
                + "3 for the number of nodes");
        for (int[] size : Check.SIZES) {
            PreimageAnalyzer x = Check.sized(size[0], size[1]);
            Check.due("size(0)", size[0], x.size(0));
            Check.due("size(1)", size[1], x.size(1));
            Check.due("size(2)", Model.power(size[0], size[1]), x.size(2));
            Check.due("size(3)", Model.power(size[0], size[1] - 1), x.size(3));
        }
    }

    private static void noSuchSize() {
        Sentences.about("Promise 3", "Throws `IndexOutOfBoundsException` if what is not from 0 to 3");
        for (int[] size : Check.SIZES) {
            PreimageAnalyzer x = Check.sized(size[0], size[1]);
            Check.refusesOutside(x, 0, 3, "size", Check.INDEX, x::size);
        }
    }

    // Promise 4: setOutput.

    private static void outputsThatCanBeSet() {
        Sentences.about("Promise 4", "the output, 0 to k - 1");
        for (int[] size : Check.SIZES) {
            PreimageAnalyzer x = Check.sized(size[0], size[1]);
            for (int index = 0; index < x.size(2); index++) {
                for (int output = 0; output < size[0]; output++) {
                    x.setOutput(index, output);
                    Check.due("output(" + index + ")", output, x.output(index));
                }
            }
        }
    }

    private static void previousOutput() {
        Sentences.about("Promise 4", "Returns the previous output.");
        PreimageAnalyzer x = Check.sized(3, 3);
        for (int index : new int[] {0, 26}) {
            Check.due("setOutput(" + index + ", 2)", 0, x.setOutput(index, 2));
            Check.due("setOutput(" + index + ", 2) again", 2, x.setOutput(index, 2));
            Check.due("setOutput(" + index + ", 0)", 2, x.setOutput(index, 0));
        }
    }

    private static void noNeighborhoodToSet() {
        Sentences.about("Promise 4", "Throws `IndexOutOfBoundsException` if there is no such neighborhood");
        for (int[] size : Check.SIZES) {
            PreimageAnalyzer x = Check.formed(size[0], size[1], "a");
            Check.refusesOutside(x, 0, x.size(2) - 1, "setOutput", Check.INDEX, index -> x.setOutput(index, 0));
        }
        // Rows that another size left behind are no neighborhoods.
        PreimageAnalyzer y = Check.sized(3, 3);
        y.setSize(2, 2);
        Check.refuses(y, "setOutput(4, 1)", Check.INDEX, () -> y.setOutput(4, 1));
    }

    private static void outputsThatAreNoStates() {
        Sentences.about("Promise 4", "Throws `IllegalArgumentException` if the output is no state");
        for (int[] size : Check.SIZES) {
            PreimageAnalyzer x = Check.formed(size[0], size[1], "a");
            Check.refusesOutside(x, 0, size[0] - 1, "setOutput", Check.ARGUMENT, output -> x.setOutput(0, output));
            Check.refusesOutside(x, 0, size[0] - 1, "setOutput", Check.ARGUMENT,
                    output -> x.setOutput(x.size(2) - 1, output));
        }
    }

    // Promise 5: output.

    private static void noNeighborhoodToRead() {
        Sentences.about("Promise 5", "Throws `IndexOutOfBoundsException` if there is no such neighborhood");
        for (int[] size : Check.SIZES) {
            PreimageAnalyzer x = Check.formed(size[0], size[1], "a");
            Check.due("the output of the first neighborhood", 0, x.output(0));
            Check.due("the output of the last neighborhood", size[0] - 1, x.output(x.size(2) - 1));
            Check.refusesOutside(x, 0, x.size(2) - 1, "output", Check.INDEX, x::output);
        }
    }

    // Promise 6: setNumber.

    private static void changesOfSetNumber() {
        Sentences.about("Promise 6", "Returns the number of neighborhoods whose outputs change.");
        for (int i = 0; i < RULES.length; i++) {
            PreimageAnalyzer x = Check.sized(Check.SIZES[i][0], Check.SIZES[i][1]);
            Check.due("setNumber(0)", 0, x.setNumber(0));
            Check.due("setNumber of the greatest", x.size(2), x.setNumber(RULES[i] - 1));
            Check.due("setNumber of the greatest again", 0, x.setNumber(RULES[i] - 1));
            Check.due("setNumber of the one before", 1, x.setNumber(RULES[i] - 2));
            Check.due("number()", RULES[i] - 2, x.number());
        }
    }

    private static void noNumberOfARule() {
        Sentences.about("Promise 6",
                "Throws `IllegalArgumentException` if the number is negative or is no number of a rule");
        for (int i = 0; i < RULES.length; i++) {
            PreimageAnalyzer x = Check.formed(Check.SIZES[i][0], Check.SIZES[i][1], "a");
            long[] wrong = {-1, -2, RULES[i], RULES[i] + 1, -RULES[i], Long.MAX_VALUE, Long.MIN_VALUE,
                Long.MIN_VALUE + 1, (1L << 32) * 3000, 1L << 62};
            for (long number : wrong) {
                Check.refuses(x, "setNumber(" + number + ")", Check.ARGUMENT, () -> x.setNumber(number));
            }
        }
        // The lower half of this number would be one.
        PreimageAnalyzer y = Check.numbered(2, 3, 30);
        Check.refuses(y, "setNumber(2^32 + 110)", Check.ARGUMENT, () -> y.setNumber((1L << 32) + 110));
    }

    // Promise 7: number.

    private static void leastAndGreatestNumber() {
        Sentences.about("Promise 7", "Returns the number of the rule.");
        for (int i = 0; i < RULES.length; i++) {
            PreimageAnalyzer x = Check.sized(Check.SIZES[i][0], Check.SIZES[i][1]);
            for (long number : new long[] {RULES[i] - 1, 1, 0, RULES[i] / 2, RULES[i] / 3 + 1}) {
                x.setNumber(number);
                Check.due("number()", number, x.number());
            }
        }
    }

    // Promise 8: append.

    private static void upToFourCharacters() {
        Sentences.about("Promise 8", "Appends up to four characters to the buffer");
        PreimageAnalyzer x = new PreimageAnalyzer();
        Check.due("append of none", 0, x.append(0));
        Check.due("append of one", 1, x.append(Check.pack("!")));
        Check.due("append of two", 3, x.append(Check.pack("!!")));
        Check.due("append of three", 6, x.append(Check.pack("!!!")));
        Check.due("append of four", 10, x.append(Check.pack("!!!a")));
        Check.due("compile() of nine ! and a", 4, x.compile());
        Check.due("number()", 15, x.number());
    }

    private static void mostSignificantByteFirst() {
        Sentences.about("Promise 8", "the bytes of an int from the most significant one to the least significant one");
        PreimageAnalyzer x = Check.sized(3, 2);
        x.append('a' << 24 | '-' << 16 | 'b' << 8 | '-');
        x.append('1');
        x.compile();
        Check.due("number() of a-b-1", Check.formed(3, 2, "a-b-1").number(), x.number());
        Check.due("output(0)", 2, x.output(0));
        Check.due("output(1)", 1, x.output(1));
        Check.due("output(3)", 0, x.output(3));
    }

    private static void bytesThatAreZero() {
        Sentences.about("Promise 8", "where bytes that are 0 are skipped.");
        int[] packed = {'a' << 24, 'a' << 16, 'a' << 8, 'a'};
        for (int each : packed) {
            PreimageAnalyzer x = new PreimageAnalyzer();
            Check.due("append(" + each + ")", 1, x.append(each));
            Check.due("append(0)", 1, x.append(0));
            Check.due("compile()", 4, x.compile());
            Check.due("number()", 240, x.number());
        }
        PreimageAnalyzer y = new PreimageAnalyzer();
        Check.due("append with gaps", 2, y.append('a' << 24 | '+' << 8));
        Check.due("append with gaps", 4, y.append('b' << 16 | '+'));
        Check.due("append with gaps", 5, y.append('c' << 24));
        y.compile();
        Check.due("number() of a+b+c", 150, y.number());
    }

    private static void numberOfCharacters() {
        Sentences.about("Promise 8", "Returns the number of characters in the buffer.");
        PreimageAnalyzer x = new PreimageAnalyzer();
        Check.due("append of nothing to the empty buffer", 0, x.append(0));
        for (int i = 1; i <= 10; i++) {
            Check.due("append of four", 4 * i, x.append(Check.pack("a+b+")));
        }
        Check.due("append of nothing to the full buffer", 40, x.append(0));
        Check.answer(x::compile);
        Check.due("append of nothing behind compile()", 0, x.append(0));
    }

    private static void bytesThatAreNoCharacters() {
        Sentences.about("Promise 8", "Throws `IllegalArgumentException` if a byte that is not 0 is not from 33 to 126");
        for (int shift = 0; shift <= 24; shift += 8) {
            for (int sign = 1; sign <= 255; sign++) {
                PreimageAnalyzer x = new PreimageAnalyzer();
                int packed = sign << shift;
                int amongOthers = 0x61616161 & ~(255 << shift) | packed;
                if (sign >= 33 && sign <= 126) {
                    Check.due("append of " + sign, 1, x.append(packed));
                    Check.due("append of " + sign + " and others", 5, x.append(amongOthers));
                } else {
                    Check.refuses(x, "append of " + sign, Check.ARGUMENT, () -> x.append(packed));
                    Check.refuses(x, "append of " + sign + " and others", Check.ARGUMENT,
                            () -> x.append(amongOthers));
                }
            }
        }
    }

    private static void moreThanFortyCharacters() {
        Sentences.about("Promise 8", "Throws `IllegalStateException` if there would be more than 40 characters");
        for (int before = 36; before <= 40; before++) {
            for (int added = 0; added <= 4; added++) {
                PreimageAnalyzer x = new PreimageAnalyzer();
                Check.write(x, "!".repeat(before));
                int packed = Check.pack("!!!!".substring(4 - added));
                if (before + added <= 40) {
                    Check.due("append of " + added + " to " + before, before + added, x.append(packed));
                } else {
                    Check.refuses(x, "append of " + added + " to " + before, Check.STATE, () -> x.append(packed));
                }
            }
        }
        // Bytes that are 0 are no characters.
        PreimageAnalyzer y = new PreimageAnalyzer();
        Check.write(y, "!".repeat(39));
        Check.due("append of one and three zeros to 39", 40, y.append('a' << 24));
        Check.due("append of zeros to 40", 40, y.append(0));
        Check.due("compile() of 40 characters", 4, y.compile());
        Check.due("append behind compile()", 1, y.append('a'));
    }

    // Promise 9: compile.

    private static void bufferAfterCompile() {
        Sentences.about("Promise 9", "The buffer is empty afterwards, also if an exception is thrown.");
        String[] texts = {"a", "!".repeat(39) + "a", "", "a+", "a)", "d", "1/0", "1%0", "(".repeat(40)};
        for (String text : texts) {
            PreimageAnalyzer x = new PreimageAnalyzer();
            Check.write(x, text);
            Check.answer(x::compile);
            Check.due("append(0) behind " + text, 0, x.append(0));
            Check.write(x, "b");
            Check.answer(x::compile);
            Check.due("number() of b behind " + text, 204, x.number());
        }
    }

    private static void changesOfCompile() {
        Sentences.about("Promise 9", "Returns the number of neighborhoods whose outputs change.");
        for (int[] size : Check.SIZES) {
            PreimageAnalyzer x = Check.sized(size[0], size[1]);
            String[] texts = {"0", "1", "1", "a", "a+1", "a"};
            int all = x.size(2);
            int ones = x.size(3);
            int[] changes = {0, all, 0, all - ones, all, all};
            for (int i = 0; i < texts.length; i++) {
                Check.write(x, texts[i]);
                Check.due("compile() of " + texts[i], changes[i], x.compile());
            }
        }
    }

    private static void compileOfWrongTexts() {
        Sentences.about("Promise 9", "Throws `IllegalArgumentException` if there is an error of the kinds 1 to 3");
        String[] texts = {"#", "", "d"};
        for (int i = 0; i < 3; i++) {
            PreimageAnalyzer x = new PreimageAnalyzer();
            Check.write(x, texts[i]);
            Check.fails("compile() of " + texts[i], Check.ARGUMENT, x::compile);
            Check.due("error(0)", i + 1, x.error(0));
        }
    }

    private static void compileOfDivisionsByZero() {
        Sentences.about("Promise 9", "Throws `ArithmeticException` if there is an error of the kinds 4 and 5");
        String[] texts = {"1/0", "1%0"};
        for (int i = 0; i < 2; i++) {
            PreimageAnalyzer x = new PreimageAnalyzer();
            Check.write(x, texts[i]);
            Check.fails("compile() of " + texts[i], Check.ARITHMETIC, x::compile);
            Check.due("error(0)", i + 4, x.error(0));
        }
    }

    /** The description of compile says what changes if it throws: the buffer and the error, nothing else. */
    private static void stateAfterCompileThrows() {
        Sentences.about("Promise 9", "also if an exception is thrown.");
        for (String text : new String[] {"", "#", "a+", "d", "1/0", "1%(1-a*b*c)"}) {
            PreimageAnalyzer x = new PreimageAnalyzer();
            PreimageAnalyzer y = new PreimageAnalyzer();
            for (PreimageAnalyzer each : new PreimageAnalyzer[] {x, y}) {
                each.setNumber(54);
                each.setWord(1, 14, 77);
                each.save();
                each.setNumber(110);
                each.setWord(3, 5, 9);
            }
            Check.write(x, text);
            Check.due("compile() of " + text, true, Check.answer(x::compile).startsWith("throws"));
            String rest = " " + x.append(0) + " " + x.error(0) + " " + x.error(1);
            Check.due("the state after " + text, Check.stateOf(y).replaceAll(" 0 0 -1$", rest), Check.stateOf(x));
            Check.due("restore()", 54, x.restore());
            Check.due("wordIndex(1)", 77, x.wordIndex(1));
        }
    }

    // Promise 10: error.

    private static void mostRecentError() {
        Sentences.about("Promise 10",
                "Returns the kind or the place of the error in the formula that compile read most recently.");
        PreimageAnalyzer x = new PreimageAnalyzer();
        String[] texts = {"a+d", "a+", "1%0", "b", "ab", "1/(1-a*b*c)", "c"};
        int[] kinds = {3, 2, 5, 0, 1, 4, 0};
        int[] places = {2, 2, 0, -1, 1, 7, -1};
        for (int i = 0; i < texts.length; i++) {
            Check.write(x, texts[i]);
            Check.due("error(0) before " + texts[i], i == 0 ? 0 : kinds[i - 1], x.error(0));
            Check.due("error(1) before " + texts[i], i == 0 ? -1 : places[i - 1], x.error(1));
            Check.answer(x::compile);
            Check.due("error(0) of " + texts[i], kinds[i], x.error(0));
            Check.due("error(1) of " + texts[i], places[i], x.error(1));
        }
    }

    private static void errorOfOtherCalls() {
        Sentences.about("Promise 10", "that compile read most recently.");
        PreimageAnalyzer x = new PreimageAnalyzer();
        x.save();
        Check.write(x, "a+d");
        Check.answer(x::compile);
        x.setSize(3, 3);
        x.setNumber(5);
        x.restore();
        x.append('a');
        Check.answer(() -> x.size(9));
        Check.answer(() -> x.append(1));
        Check.due("error(0)", 3, x.error(0));
        Check.due("error(1)", 2, x.error(1));
    }

    private static void kindWithoutError() {
        Sentences.about("Promise 10", "Returns the kind, 0 if that formula had no error or compile was not called;");
        PreimageAnalyzer x = new PreimageAnalyzer();
        Check.due("error(0) of a new object", 0, x.error(0));
        Check.write(x, "#");
        Check.due("error(0) before compile", 0, x.error(0));
        Check.answer(x::compile);
        Check.write(x, "a");
        x.compile();
        Check.due("error(0) of a", 0, x.error(0));
    }

    private static void placeWithoutError() {
        Sentences.about("Promise 10", "or the place, -1 in this case.");
        PreimageAnalyzer x = new PreimageAnalyzer();
        Check.due("error(1) of a new object", -1, x.error(1));
        Check.write(x, "#");
        Check.due("error(1) before compile", -1, x.error(1));
        Check.answer(x::compile);
        Check.due("error(1) of #", 0, x.error(1));
        Check.write(x, "a");
        x.compile();
        Check.due("error(1) of a", -1, x.error(1));
    }

    private static void partsOfAnError() {
        Sentences.about("Promise 10", "`what`: 0 for the kind, 1 for the place");
        PreimageAnalyzer x = new PreimageAnalyzer();
        Check.write(x, "!".repeat(40));
        Check.answer(x::compile);
        Check.due("error(0)", 2, x.error(0));
        Check.due("error(1)", 40, x.error(1));
    }

    private static void noPartOfAnError() {
        Sentences.about("Promise 10", "Throws `IndexOutOfBoundsException` if what is not 0 or 1");
        PreimageAnalyzer x = new PreimageAnalyzer();
        Check.refusesOutside(x, 0, 1, "error", Check.INDEX, x::error);
        Check.write(x, "#");
        Check.answer(x::compile);
        Check.refusesOutside(x, 0, 1, "error", Check.INDEX, x::error);
    }

    // Promises 11 to 13: mirror, complement, leastNumber.

    private static void reversedCells() {
        Sentences.about("Promise 11", "Replaces the rule by its mirror image: the output of each neighborhood becomes "
                + "the previous output of the neighborhood with the reversed sequence of cells.");
        for (int[] size : Check.SIZES) {
            String last = DescriptionSentences.lastCell(size[1]);
            PreimageAnalyzer x = Check.formed(size[0], size[1], "a");
            x.mirror();
            Check.due("mirror() of a", Check.formed(size[0], size[1], last).number(), x.number());
            x.mirror();
            Check.due("mirror() again", Check.formed(size[0], size[1], "a").number(), x.number());
        }
    }

    private static void changesOfMirror() {
        Sentences.about("Promise 11", "Returns the number of neighborhoods whose outputs change.");
        for (int[] size : Check.SIZES) {
            Check.due("mirror() of a constant", 0, Check.sized(size[0], size[1]).mirror());
            PreimageAnalyzer x = Check.sized(size[0], size[1]);
            // The neighborhoods 0..01 and 10..0 change places.
            x.setOutput(1, 1);
            Check.due("mirror()", 2, x.mirror());
            Check.due("output(1)", 0, x.output(1));
            Check.due("the output of the reversed cells", 1, x.output(x.size(3)));
            Check.due("mirror() again", 2, x.mirror());
            // The first and the last neighborhood are their own reverses.
            x.setOutput(1, 0);
            x.setOutput(0, 1);
            x.setOutput(x.size(2) - 1, size[0] - 1);
            Check.due("mirror() of the ends", 0, x.mirror());
        }
    }

    private static void changesOfComplement() {
        Sentences.about("Promise 12", "Returns the number of neighborhoods whose outputs change.");
        for (int[] size : Check.SIZES) {
            PreimageAnalyzer x = Check.sized(size[0], size[1]);
            Check.due("complement() of the least rule", x.size(2), x.complement());
            Check.due("output(0)", size[0] - 1, x.output(0));
            Check.due("the last output", size[0] - 1, x.output(x.size(2) - 1));
            Check.due("complement() of the greatest rule", x.size(2), x.complement());
            Check.due("number()", 0, x.number());
            Check.due("complement() of a", 0, Check.formed(size[0], size[1], "a").complement());
        }
    }

    private static void middleOfComplement() {
        Sentences.about("Promise 12", "becomes k - 1 minus the previous output of the neighborhood "
                + "(k - 1 - x1, ..., k - 1 - xw).");
        // With three states, the neighborhood of ones is its own complement, and so is the state 1.
        PreimageAnalyzer x = Check.formed(3, 3, "1");
        Check.due("complement() of 1", 0, x.complement());
        x.setOutput(13, 2);
        Check.due("complement() with another middle", 1, x.complement());
        Check.due("output(13)", 0, x.output(13));
    }

    private static void leastOfFour() {
        Sentences.about("Promise 13", "Returns the least number among those of the rule, its mirror image, its "
                + "complement, and the complement of its mirror image.");
        int[] equivalent = {110, 124, 137, 193};
        for (int number : equivalent) {
            PreimageAnalyzer x = Check.numbered(2, 3, number);
            Check.due("leastNumber() of " + number, 110, x.leastNumber());
            Check.due("number() stays", number, x.number());
        }
        for (int i = 0; i < RULES.length; i++) {
            Check.due("leastNumber() of the greatest rule", 0,
                    Check.numbered(Check.SIZES[i][0], Check.SIZES[i][1], RULES[i] - 1).leastNumber());
            Check.due("leastNumber() of the least rule", 0,
                    Check.sized(Check.SIZES[i][0], Check.SIZES[i][1]).leastNumber());
        }
    }

    // Promise 14: compose.

    private static void widthOfTheComposition() {
        Sentences.about("Promise 14", "the rule, of width w + w2 - 1");
        int[][] widths = {{2, 2, 2}, {2, 2, 3}, {2, 3, 2}, {3, 2, 2}};
        for (int[] each : widths) {
            PreimageAnalyzer x = Check.formed(each[0], each[2], "a");
            x.save();
            x.setSize(each[0], each[1]);
            Check.write(x, "b");
            x.compile();
            int width = each[1] + each[2] - 1;
            Check.due("compose()", width, x.compose());
            Check.due("size(0)", each[0], x.size(0));
            Check.due("size(1)", width, x.size(1));
            Check.due("size(2)", Model.power(each[0], width), x.size(2));
            Check.due("size(3)", Model.power(each[0], width - 1), x.size(3));
            Check.due("number() of b", Check.formed(each[0], width, "b").number(), x.number());
        }
    }

    private static void savedRuleFirst() {
        Sentences.about("Promise 14",
                "the image that the present rule gives to the image that the saved rule gives to the word");
        PreimageAnalyzer x = Check.formed(2, 2, "1-a");
        x.save();
        Check.write(x, "a*b");
        x.compile();
        x.compose();
        Check.due("number()", Check.formed(2, 3, "(1-a)*(1-b)").number(), x.number());
        x.restore();
        Check.write(x, "a*b");
        x.compile();
        x.save();
        x.setNumber(Check.formed(2, 2, "1-a").number());
        x.compose();
        Check.due("number() the other way round", Check.formed(2, 3, "1-a*b").number(), x.number());
    }

    private static void registersAfterCompose() {
        Sentences.about("Promise 14", "The registers stay.");
        PreimageAnalyzer x = Check.formed(2, 2, "a+b");
        x.setWord(0, 3, 1);
        x.save();
        int[] lengths = {14, 0, 1, 9};
        for (int i = 0; i < 4; i++) {
            x.setWord(i, lengths[i], Model.power(2, lengths[i]) - 1);
        }
        x.compose();
        for (int i = 0; i < 4; i++) {
            Check.due("wordLength(" + i + ")", lengths[i], x.wordLength(i));
            Check.due("wordIndex(" + i + ")", Model.power(2, lengths[i]) - 1, x.wordIndex(i));
        }
    }

    private static void composeWithNothingSaved() {
        Sentences.about("Promise 14", "Throws `IllegalStateException` if nothing is saved");
        for (int[] size : Check.SIZES) {
            PreimageAnalyzer x = Check.formed(size[0], size[1], "a");
            Check.refuses(x, "compose()", Check.STATE, x::compose);
        }
    }

    private static void composeWithOtherStates() {
        Sentences.about("Promise 14", "the saved rule has another number of states");
        PreimageAnalyzer x = Check.formed(2, 2, "b");
        x.save();
        x.setSize(3, 2);
        x.setOutput(3, 2);
        Check.refuses(x, "compose() of three states with two", Check.STATE, x::compose);
        x.save();
        x.setSize(2, 2);
        x.setOutput(3, 1);
        Check.refuses(x, "compose() of two states with three", Check.STATE, x::compose);
        x.setSize(2, 3);
        Check.refuses(x, "compose() of two states with three", Check.STATE, x::compose);
    }

    private static void composeBeyondTheWidth() {
        Sentences.about("Promise 14", "or there are no automata of the new width");
        int[][] widths = {{2, 2, 4}, {2, 4, 2}, {2, 3, 3}, {2, 4, 4}, {2, 4, 3}, {2, 3, 4}, {3, 2, 3}, {3, 3, 2},
            {3, 3, 3}};
        for (int[] each : widths) {
            PreimageAnalyzer x = Check.formed(each[0], each[2], "a");
            x.setWord(0, 5, 6);
            x.save();
            x.setSize(each[0], each[1]);
            x.setOutput(2, 1);
            x.setWord(1, 2, 3);
            Check.refuses(x, "compose() of " + each[1] + " with " + each[2], Check.STATE, x::compose);
            Check.due("restore()", Check.formed(each[0], each[2], "a").number(), x.restore());
        }
    }
}

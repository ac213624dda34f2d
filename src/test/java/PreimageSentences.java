/** Tests of the sentences of promises 21 to 26. */
final class PreimageSentences {
    private static final String NO_REGISTER = "Throws `IndexOutOfBoundsException` if there is no such register";
    private static final String NO_LENGTH = "Throws `IllegalArgumentException` if the length is out of range";

    private PreimageSentences() {
    }

    // Promise 21: preimageCount.

    private static void countsOfTheLongestWords() {
        Sentences.about("Promise 21", "Returns the number of preimages or cyclic preimages of the word in a register.");
        for (int[] size : Check.SIZES) {
            PreimageAnalyzer x = Check.sized(size[0], size[1]);
            x.setWord(0, 14, 0);
            x.setWord(1, 14, 1);
            // All words of 14 + w - 1 cells, and all of 14 cells.
            Check.due("preimageCount(0, false)", Model.power(size[0], 13 + size[1]), x.preimageCount(0, false));
            Check.due("preimageCount(0, true)", Model.power(size[0], 14), x.preimageCount(0, true));
            Check.due("preimageCount(1, false)", 0, x.preimageCount(1, false));
            Check.due("preimageCount(1, true)", 0, x.preimageCount(1, true));
        }
    }

    private static void cyclicPreimagesOfShortWords() {
        Sentences.about("Promise 21", "whether cyclic preimages are counted;");
        for (int[] size : Check.SIZES) {
            int k = size[0];
            PreimageAnalyzer x = Check.formed(k, size[1], DescriptionSentences.lastCell(size[1]));
            PreimageAnalyzer zero = Check.sized(k, size[1]);
            for (int length = 1; length <= size[1]; length++) {
                for (int index = 0; index < Model.power(k, length); index++) {
                    // A shift has one cyclic preimage for each word, also if it goes round more than once.
                    x.setWord(0, length, index);
                    Check.due("preimageCount of " + length + " cells", 1, x.preimageCount(0, true));
                }
                zero.setWord(0, length, 0);
                Check.due("preimageCount of " + length + " zeros", Model.power(k, length),
                        zero.preimageCount(0, true));
            }
        }
    }

    private static void noCyclicPreimagesOfTheEmptyWord() {
        Sentences.about("Promise 21", "the empty word has none");
        for (int[] size : Check.SIZES) {
            for (String formula : new String[] {"0", "a"}) {
                PreimageAnalyzer x = Check.formed(size[0], size[1], formula);
                Check.due("preimageCount(0, true)", 0, x.preimageCount(0, true));
                Check.due("preimageCount(0, false)", x.size(3), x.preimageCount(0, false));
            }
        }
    }

    private static void noRegisterWithPreimages() {
        Sentences.about("Promise 21", NO_REGISTER);
        PreimageAnalyzer x = Check.filled();
        Check.refusesOutside(x, 0, 3, "preimageCount", Check.INDEX, register -> x.preimageCount(register, false));
        Check.refusesOutside(x, 0, 3, "preimageCount", Check.INDEX, register -> x.preimageCount(register, true));
    }

    // Promise 22: preimage.

    private static void numbersFromZero() {
        Sentences.about("Promise 22", "its number among all of them, in their order, from 0");
        PreimageAnalyzer x = Check.numbered(2, 3, 110);
        x.setWord(0, 1, 1);
        int[] open = {0b001, 0b010, 0b011, 0b101, 0b110};
        for (int i = 0; i < 5; i++) {
            Check.due("preimage " + i + " of 1", open[i], x.preimage(0, false, i, 1));
        }
        Check.refuses(x, "preimage -1 of 1", Check.ELEMENT, () -> x.preimage(0, false, -1, 1));
        Check.refuses(x, "preimage 5 of 1", Check.ELEMENT, () -> x.preimage(0, false, 5, 1));
        x.setWord(0, 2, 0b01);
        int[] ofTwoCells = {0b0001, 0b1001, 0b1110};
        for (int i = 0; i < 3; i++) {
            Check.due("preimage " + i + " of 01", ofTwoCells[i], x.preimage(0, false, i, 1));
        }
        x.setWord(0, 3, 0);
        int[] cyclic = {0b000, 0b111};
        for (int i = 0; i < 2; i++) {
            Check.due("cyclic preimage " + i + " of 000", cyclic[i], x.preimage(0, true, i, 1));
        }
        Check.refuses(x, "cyclic preimage -1", Check.ELEMENT, () -> x.preimage(0, true, -1, 1));
        Check.refuses(x, "cyclic preimage 2", Check.ELEMENT, () -> x.preimage(0, true, 2, 1));
    }

    private static void orderOfPreimages() {
        Sentences.about("Promise 22", "in their order");
        for (int[] size : Check.SIZES) {
            PreimageAnalyzer x = Check.formed(size[0], size[1], "a*b+1");
            for (int length = 1; length <= 4; length++) {
                for (int index = 0; index < Model.power(size[0], length); index++) {
                    x.setWord(0, length, index);
                    ascending(x, false);
                    ascending(x, true);
                }
            }
        }
    }

    /** The preimages of the word in register 0 ascend, and have the word as their image. */
    private static void ascending(PreimageAnalyzer x, boolean cyclic) {
        int count = x.preimageCount(0, cyclic);
        int before = -1;
        for (int i = 0; i < count; i++) {
            int index = x.preimage(0, cyclic, i, 1);
            Check.due("a greater index", true, index > before);
            x.apply(1, cyclic);
            Check.due("the length of its image", x.wordLength(0), x.wordLength(1));
            Check.due("the image of preimage " + i, x.wordIndex(0), x.wordIndex(1));
            before = index;
        }
    }

    private static void sameRegister() {
        Sentences.about("Promise 22", "the register into which it is put, possibly the same");
        PreimageAnalyzer x = Check.filled();
        Check.due("preimage(1, false, 4, 1)", 0b110, x.preimage(1, false, 4, 1));
        Check.due("wordLength(1)", 3, x.wordLength(1));
        Check.due("wordIndex(1)", 0b110, x.wordIndex(1));
        Check.due("preimage(0, false, 3, 0)", 3, x.preimage(0, false, 3, 0));
        Check.due("wordLength(0)", 2, x.wordLength(0));
        x.setWord(2, 3, 0);
        Check.due("preimage(2, true, 1, 3)", 7, x.preimage(2, true, 1, 3));
        Check.due("wordLength(3)", 3, x.wordLength(3));
        Check.due("wordLength(2)", 3, x.wordLength(2));
        Check.due("wordIndex(2)", 0, x.wordIndex(2));
    }

    private static void noRegisterToReadOrPut() {
        Sentences.about("Promise 22", NO_REGISTER);
        PreimageAnalyzer x = Check.filled();
        Check.refusesOutside(x, 0, 3, "preimage of", Check.INDEX, register -> x.preimage(register, false, 0, 0));
        Check.refusesOutside(x, 0, 3, "preimage of", Check.INDEX, register -> x.preimage(register, true, 0, 0));
        Check.refusesOutside(x, 0, 3, "preimage into", Check.INDEX, target -> x.preimage(1, false, 0, target));
        Check.refusesOutside(x, 0, 3, "preimage into", Check.INDEX, target -> x.preimage(1, true, 0, target));
        Check.refusesOutside(x, 0, 3, "preimage of and into", Check.INDEX, each -> x.preimage(each, true, 0, each));
    }

    private static void preimagesOfMoreThan14Cells() {
        Sentences.about("Promise 22", "Throws `IllegalStateException` if the preimages have more than 14 cells");
        for (int[] size : Check.SIZES) {
            PreimageAnalyzer x = Check.sized(size[0], size[1]);
            for (int length = 0; length <= 14; length++) {
                x.setWord(0, length, 0);
                int longer = length + size[1] - 1;
                if (longer <= 14) {
                    int last = Model.power(size[0], longer) - 1;
                    Check.due("the last preimage of " + length + " cells", last, x.preimage(0, false, last, 1));
                    Check.due("its length", longer, x.wordLength(1));
                } else {
                    Check.refuses(x, "preimage of " + length + " cells", Check.STATE,
                            () -> x.preimage(0, false, 0, 1));
                }
            }
            // Cyclic preimages are as long as the word.
            int last = Model.power(size[0], 14) - 1;
            Check.due("the last cyclic preimage of 14 cells", last, x.preimage(0, true, last, 1));
            Check.due("its length", 14, x.wordLength(1));
        }
    }

    private static void noSuchPreimage() {
        Sentences.about("Promise 22", "Throws `java` .util.NoSuchElementException if there is no such preimage");
        for (int[] size : Check.SIZES) {
            PreimageAnalyzer x = Check.formed(size[0], size[1], "a*b");
            for (int length = 0; length <= 4; length++) {
                for (boolean cyclic : new boolean[] {false, true}) {
                    x.setWord(0, length, Model.power(size[0], length) / 3);
                    int count = x.preimageCount(0, cyclic);
                    Check.refusesOutside(x, 0, count - 1, "preimage of " + length + " cells", Check.ELEMENT,
                            number -> x.preimage(0, cyclic, number, 1));
                }
            }
        }
        PreimageAnalyzer y = Check.sized(2, 3);
        y.setWord(0, 3, 1);
        Check.refuses(y, "preimage of an orphan", Check.ELEMENT, () -> y.preimage(0, false, 0, 1));
        Check.refuses(y, "cyclic preimage of a word without", Check.ELEMENT, () -> y.preimage(0, true, 0, 1));
        Check.refuses(y, "cyclic preimage of the empty word", Check.ELEMENT, () -> y.preimage(2, true, 0, 1));
    }

    private static void preimagesByShifts() {
        Sentences.about("Promise 22", "Puts a preimage or cyclic preimage of the word in a register into a register.");
        for (int[] size : Check.SIZES) {
            int shift = size[1] - 1;
            PreimageAnalyzer x = Check.formed(size[0], size[1], DescriptionSentences.lastCell(size[1]));
            for (int length = 1; length <= 14; length++) {
                x.setWord(0, length, 1);
                x.preimage(0, true, 0, 1);
                // The only one has its one shift cells further on than the image, going on at the front behind the end.
                for (int i = 0; i < length; i++) {
                    Check.due("cell " + i + " of " + length, i == (length - 1 + shift) % length ? 1 : 0, x.cell(1, i));
                }
                if (length + shift <= 14) {
                    // The first cells are free.
                    Check.due("the first preimage", 1, x.preimage(0, false, 0, 2));
                    Check.due("the last preimage", (x.size(3) - 1) * Model.power(size[0], length) + 1,
                            x.preimage(0, false, x.size(3) - 1, 2));
                }
            }
        }
    }

    // Promise 23: preimagesBetween.

    private static void nodesThatOverlap() {
        Sentences.about("Promise 23", "both may overlap.");
        for (int[] size : Check.SIZES) {
            int k = size[0];
            PreimageAnalyzer x = Check.sized(k, size[1]);
            int n = x.size(3);
            for (int length = 0; length <= size[1]; length++) {
                x.setWord(0, length, 0);
                // The cells that both nodes have: those of the first one behind length cells.
                int shared = Model.power(k, Math.max(0, size[1] - 1 - length));
                int free = Model.power(k, Math.max(0, length - (size[1] - 1)));
                for (int first = 0; first < n; first++) {
                    for (int last = 0; last < n; last++) {
                        boolean fits = first % shared == last / (n / shared);
                        Check.due("preimagesBetween of " + length + " cells", fits ? free : 0,
                                x.preimagesBetween(0, first, last));
                    }
                }
            }
        }
    }

    private static void longestWordBetweenNodes() {
        Sentences.about("Promise 23", "Returns the number of preimages of the word in a register that begin with the "
                + "cells of a node and end with the cells of a node;");
        for (int[] size : Check.SIZES) {
            PreimageAnalyzer x = Check.sized(size[0], size[1]);
            x.setWord(0, 14, 0);
            int last = x.size(3) - 1;
            Check.due("between the last nodes", Model.power(size[0], 15 - size[1]), x.preimagesBetween(0, last, last));
            Check.due("from the first to the last", Model.power(size[0], 15 - size[1]), x.preimagesBetween(0, 0, last));
        }
    }

    private static void noRegisterBetween() {
        Sentences.about("Promise 23", "Throws `IndexOutOfBoundsException` if there is no such register");
        PreimageAnalyzer x = Check.filled();
        Check.refusesOutside(x, 0, 3, "preimagesBetween", Check.INDEX, each -> x.preimagesBetween(each, 0, 0));
        Check.refusesOutside(x, 0, 3, "preimagesBetween", Check.INDEX, each -> x.preimagesBetween(each, 3, 3));
    }

    private static void noNodeBetween() {
        Sentences.about("Promise 23", "or node");
        for (int[] size : Check.SIZES) {
            PreimageAnalyzer x = Check.sized(size[0], size[1]);
            for (int length = 0; length <= 14; length += 7) {
                x.setWord(0, length, 0);
                int last = x.size(3) - 1;
                Check.refusesOutside(x, 0, last, "preimagesBetween, first", Check.INDEX,
                        node -> x.preimagesBetween(0, node, 0));
                Check.refusesOutside(x, 0, last, "preimagesBetween, last", Check.INDEX,
                        node -> x.preimagesBetween(0, 0, node));
                Check.refusesOutside(x, 0, last, "preimagesBetween, both", Check.INDEX,
                        node -> x.preimagesBetween(0, node, node));
            }
        }
    }

    // Promises 24 to 26: wordsWith, mostPreimages, fixedWords.

    private static void lengthsOfWordsWith() {
        Sentences.about("Promise 24", "the length of the words, 0 to 7");
        for (int[] size : Check.SIZES) {
            PreimageAnalyzer x = Check.sized(size[0], size[1]);
            PreimageAnalyzer y = Check.formed(size[0], size[1], "a");
            for (int length = 0; length <= 7; length++) {
                int all = Model.power(size[0], length + size[1] - 1);
                Check.due("wordsWith(" + length + ", all)", 1, x.wordsWith(length, all));
                Check.due("wordsWith(" + length + ", 0)", Model.power(size[0], length) - 1, x.wordsWith(length, 0));
                Check.due("wordsWith(" + length + ", n) of a", Model.power(size[0], length),
                        y.wordsWith(length, y.size(3)));
            }
        }
    }

    private static void countsOfWordsWith() {
        Sentences.about("Promise 24", "the number of preimages");
        PreimageAnalyzer x = Check.numbered(2, 3, 110);
        int words = 0;
        for (int count = 0; count <= 512; count++) {
            words += x.wordsWith(7, count);
        }
        Check.due("all words of 7 cells", 128, words);
        for (int count : new int[] {-1, Integer.MIN_VALUE, Integer.MAX_VALUE}) {
            Check.due("wordsWith(7, " + count + ")", 0, x.wordsWith(7, count));
        }
    }

    private static void noLengthOfWordsWith() {
        Sentences.about("Promise 24", NO_LENGTH);
        PreimageAnalyzer x = Check.filled();
        for (int count : new int[] {-1, 0, 1, Integer.MAX_VALUE}) {
            Check.refusesOutside(x, 0, 7, "wordsWith", Check.ARGUMENT, length -> x.wordsWith(length, count));
        }
    }

    private static void lengthsOfMostPreimages() {
        Sentences.about("Promise 25", "the length of the words, 0 to 7");
        for (int[] size : Check.SIZES) {
            PreimageAnalyzer x = Check.sized(size[0], size[1]);
            PreimageAnalyzer y = Check.formed(size[0], size[1], "a");
            for (int length = 7; length >= 0; length--) {
                Check.due("mostPreimages(" + length + ") of a constant", Model.power(size[0], length + size[1] - 1),
                        x.mostPreimages(length));
                Check.due("mostPreimages(" + length + ") of a", y.size(3), y.mostPreimages(length));
            }
        }
        // What calls for longer words and more states leave behind does not count.
        PreimageAnalyzer z = Check.sized(3, 3);
        z.setWord(0, 14, 4782968);
        Check.due("preimageCount(0, false)", 0, z.preimageCount(0, false));
        z.setSize(2, 2);
        z.setNumber(15);
        Check.due("mostPreimages(7)", 256, z.mostPreimages(7));
        Check.due("wordsWith(7, 256)", 1, z.wordsWith(7, 256));
    }

    private static void lastWordWithMostPreimages() {
        Sentences.about("Promise 25", "Returns the greatest number of preimages of a word of a length.");
        for (int[] size : Check.SIZES) {
            // The last word has all preimages, the others have none.
            PreimageAnalyzer x = Check.formed(size[0], size[1], "" + (size[0] - 1));
            for (int length = 0; length <= 7; length++) {
                Check.due("mostPreimages(" + length + ")", Model.power(size[0], length + size[1] - 1),
                        x.mostPreimages(length));
            }
        }
    }

    private static void noLengthOfMostPreimages() {
        Sentences.about("Promise 25", NO_LENGTH);
        PreimageAnalyzer x = Check.filled();
        Check.refusesOutside(x, 0, 7, "mostPreimages", Check.ARGUMENT, x::mostPreimages);
    }

    private static void lengthsOfFixedWords() {
        Sentences.about("Promise 26", "the length of the words, 1 to 8");
        for (int[] size : Check.SIZES) {
            PreimageAnalyzer zero = Check.sized(size[0], size[1]);
            PreimageAnalyzer greatest = Check.formed(size[0], size[1], "" + (size[0] - 1));
            PreimageAnalyzer other = Check.formed(size[0], size[1], "a+1");
            PreimageAnalyzer same = Check.formed(size[0], size[1], "a");
            for (int length = 1; length <= 8; length++) {
                Check.due("fixedWords(" + length + ") of 0", 1, zero.fixedWords(length));
                Check.due("fixedWords(" + length + ") of k - 1", 1, greatest.fixedWords(length));
                Check.due("fixedWords(" + length + ") of a+1", 0, other.fixedWords(length));
                Check.due("fixedWords(" + length + ") of a", Model.power(size[0], length), same.fixedWords(length));
            }
        }
    }

    private static void fixedWordsThatGoRound() {
        Sentences.about("Promise 26", "Returns the number of words of a length that are their own cyclic images.");
        for (int[] size : Check.SIZES) {
            int shift = size[1] - 1;
            PreimageAnalyzer x = Check.formed(size[0], size[1], DescriptionSentences.lastCell(size[1]));
            for (int length = 1; length <= 8; length++) {
                // What a shift by w - 1 cells leaves as it is has a period that divides both.
                int period = 1;
                for (int i = 1; i <= length; i++) {
                    period = length % i == 0 && shift % i == 0 ? i : period;
                }
                Check.due("fixedWords(" + length + ") of a shift", Model.power(size[0], period),
                        x.fixedWords(length));
            }
        }
    }

    private static void noLengthOfFixedWords() {
        Sentences.about("Promise 26", NO_LENGTH);
        PreimageAnalyzer x = Check.filled();
        Check.refusesOutside(x, 1, 8, "fixedWords", Check.ARGUMENT, x::fixedWords);
        Check.refuses(x, "fixedWords(0)", Check.ARGUMENT, () -> x.fixedWords(0));
        Check.refuses(x, "fixedWords(9)", Check.ARGUMENT, () -> x.fixedWords(9));
    }
}

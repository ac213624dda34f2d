/** Tests of the sentences of promises 15 to 20. */
final class RegisterSentences {
    private static final String NO_REGISTER = "Throws `IndexOutOfBoundsException` if there is no such register";

    private RegisterSentences() {
    }

    // Promise 15: setWord.

    private static void lengthsThatCanBeSet() {
        Sentences.about("Promise 15", "the length of the word, 0 to 14");
        for (int[] size : Check.SIZES) {
            PreimageAnalyzer x = Check.sized(size[0], size[1]);
            for (int length = 0; length <= 14; length++) {
                int last = Model.power(size[0], length) - 1;
                x.setWord(0, length, last);
                Check.due("wordLength(0)", length, x.wordLength(0));
                Check.due("wordIndex(0)", last, x.wordIndex(0));
            }
        }
    }

    private static void previousLength() {
        Sentences.about("Promise 15", "Returns the previous length of the register.");
        PreimageAnalyzer x = new PreimageAnalyzer();
        Check.due("setWord of a new register", 0, x.setWord(1, 14, 5));
        Check.due("setWord of a full register", 14, x.setWord(1, 0, 0));
        Check.due("setWord of an empty register", 0, x.setWord(1, 1, 1));
        Check.due("setWord of the same length", 1, x.setWord(1, 1, 0));
        Check.due("setWord of another register", 0, x.setWord(2, 3, 0));
    }

    private static void noRegisterToSet() {
        Sentences.about("Promise 15", NO_REGISTER);
        PreimageAnalyzer x = Check.filled();
        Check.refusesOutside(x, 0, 3, "setWord", Check.INDEX, register -> x.setWord(register, 0, 0));
        Check.refusesOutside(x, 0, 3, "setWord", Check.INDEX, register -> x.setWord(register, 14, 16383));
    }

    private static void lengthOutOfRange() {
        Sentences.about("Promise 15", "Throws `IllegalArgumentException` if the length is out of range");
        for (int[] size : Check.SIZES) {
            PreimageAnalyzer x = Check.sized(size[0], size[1]);
            x.setWord(3, 2, 3);
            Check.refusesOutside(x, 0, 14, "setWord", Check.ARGUMENT, length -> x.setWord(3, length, 0));
            Check.refusesOutside(x, 0, 14, "setWord", Check.ARGUMENT, length -> x.setWord(3, length, 1));
        }
    }

    private static void noWordWithThisIndex() {
        Sentences.about("Promise 15", "or there is no word of this length with this index");
        for (int[] size : Check.SIZES) {
            PreimageAnalyzer x = Check.sized(size[0], size[1]);
            x.setWord(3, 2, 3);
            for (int length = 0; length <= 14; length++) {
                int each = length;
                Check.refusesOutside(x, 0, Model.power(size[0], length) - 1, "setWord of " + length + " cells",
                        Check.ARGUMENT, index -> x.setWord(3, each, index));
            }
        }
    }

    // Promises 16 to 18: wordLength, wordIndex, cell.

    private static void noRegisterWithALength() {
        Sentences.about("Promise 16", NO_REGISTER);
        PreimageAnalyzer x = Check.filled();
        int[] lengths = {0, 1, 8, 14};
        for (int i = 0; i < 4; i++) {
            Check.due("wordLength(" + i + ")", lengths[i], x.wordLength(i));
        }
        Check.refusesOutside(x, 0, 3, "wordLength", Check.INDEX, x::wordLength);
    }

    private static void indexOfTheEmptyWord() {
        Sentences.about("Promise 17", "Returns the index, 0 for the empty word.");
        PreimageAnalyzer x = new PreimageAnalyzer();
        for (int i = 0; i < 4; i++) {
            Check.due("wordIndex(" + i + ") at first", 0, x.wordIndex(i));
            x.setWord(i, 14, 16383);
            Check.due("wordIndex(" + i + ") of the last word", 16383, x.wordIndex(i));
            x.setWord(i, 0, 0);
            Check.due("wordIndex(" + i + ") of the empty word", 0, x.wordIndex(i));
            x.setWord(i, 14, 16383);
        }
        x.setSize(2, 3);
        for (int i = 0; i < 4; i++) {
            Check.due("wordIndex(" + i + ") after setSize", 0, x.wordIndex(i));
        }
    }

    private static void noRegisterWithAnIndex() {
        Sentences.about("Promise 17", NO_REGISTER);
        PreimageAnalyzer x = Check.filled();
        int[] indices = {0, 1, 77, 16382};
        for (int i = 0; i < 4; i++) {
            Check.due("wordIndex(" + i + ")", indices[i], x.wordIndex(i));
        }
        Check.refusesOutside(x, 0, 3, "wordIndex", Check.INDEX, x::wordIndex);
    }

    private static void firstAndLastCell() {
        Sentences.about("Promise 18", "the number of the cell, from 0");
        for (int[] size : Check.SIZES) {
            PreimageAnalyzer x = Check.sized(size[0], size[1]);
            for (int length = 2; length <= 14; length++) {
                x.setWord(0, length, (size[0] - 1) * Model.power(size[0], length - 1));
                Check.due("the first cell of " + length, size[0] - 1, x.cell(0, 0));
                Check.due("the last cell of " + length, 0, x.cell(0, length - 1));
                x.setWord(0, length, size[0] - 1);
                Check.due("the first cell of " + length, 0, x.cell(0, 0));
                Check.due("the last cell of " + length, size[0] - 1, x.cell(0, length - 1));
            }
        }
    }

    private static void noRegisterWithCells() {
        Sentences.about("Promise 18", "Throws `IndexOutOfBoundsException` if there is no such register or cell");
        PreimageAnalyzer x = Check.filled();
        Check.refusesOutside(x, 0, 3, "cell", Check.INDEX, register -> x.cell(register, 0));
    }

    private static void noSuchCell() {
        Sentences.about("Promise 18", "or cell");
        for (int[] size : Check.SIZES) {
            PreimageAnalyzer x = Check.sized(size[0], size[1]);
            Check.refuses(x, "cell(0, 0) of the empty word", Check.INDEX, () -> x.cell(0, 0));
            for (int length = 0; length <= 14; length++) {
                x.setWord(0, length, 0);
                // Another register has more cells.
                x.setWord(1, 14, 0);
                Check.refusesOutside(x, 0, length - 1, "cell of " + length, Check.INDEX, cell -> x.cell(0, cell));
            }
        }
    }

    // Promise 19: apply.

    private static void newLength() {
        Sentences.about("Promise 19", "Returns the new length.");
        for (int[] size : Check.SIZES) {
            PreimageAnalyzer x = Check.sized(size[0], size[1]);
            x.setWord(0, 14, 1);
            Check.due("apply(0, true)", 14, x.apply(0, true));
            for (int length = 15 - size[1]; length >= 1; length -= size[1] - 1) {
                Check.due("apply(0, false)", length, x.apply(0, false));
                Check.due("wordLength(0)", length, x.wordLength(0));
            }
        }
    }

    private static void noRegisterToApply() {
        Sentences.about("Promise 19", NO_REGISTER);
        PreimageAnalyzer x = Check.filled();
        Check.refusesOutside(x, 0, 3, "apply", Check.INDEX, register -> x.apply(register, false));
        Check.refusesOutside(x, 0, 3, "apply", Check.INDEX, register -> x.apply(register, true));
    }

    private static void noImage() {
        Sentences.about("Promise 19", "Throws `IllegalStateException` if the word has no image");
        for (int[] size : Check.SIZES) {
            PreimageAnalyzer x = Check.sized(size[0], size[1]);
            Check.refuses(x, "apply of the empty word", Check.STATE, () -> x.apply(1, false));
            x.setWord(1, size[1] - 1, 1);
            Check.refuses(x, "apply of w - 1 cells", Check.STATE, () -> x.apply(1, false));
            x.setWord(1, size[1], 1);
            Check.due("apply of w cells", 1, x.apply(1, false));
        }
    }

    private static void noCyclicImage() {
        Sentences.about("Promise 19", "or cyclic image");
        for (int[] size : Check.SIZES) {
            PreimageAnalyzer x = Check.sized(size[0], size[1]);
            Check.refuses(x, "apply of the empty word", Check.STATE, () -> x.apply(1, true));
            x.setWord(1, 1, 1);
            Check.due("apply of one cell", 1, x.apply(1, true));
            Check.due("its image", 0, x.wordIndex(1));
        }
    }

    // Promise 20: orbit.

    private static void stepsBefore() {
        Sentences.about("Promise 20", "0 for the number of cyclic images that are taken before the word that occurs "
                + "twice occurs for the first time");
        for (int[] size : Check.SIZES) {
            PreimageAnalyzer x = Check.sized(size[0], size[1]);
            x.setWord(0, 8, 0);
            Check.due("orbit(0, 0) of a word that is its own image", 0, x.orbit(0, 0));
            x.setWord(0, 8, 1);
            Check.due("orbit(0, 0) of a word before such a word", 1, x.orbit(0, 0));
        }
        // In each step the one before a zero goes out.
        PreimageAnalyzer y = Check.formed(2, 2, "a*b");
        y.setWord(0, 8, 0b11111110);
        Check.due("orbit(0, 0) of seven ones", 7, y.orbit(0, 0));
    }

    private static void stepsBetween() {
        Sentences.about("Promise 20", "1 for the number of cyclic images between both times");
        for (int[] size : Check.SIZES) {
            PreimageAnalyzer x = Check.formed(size[0], size[1], DescriptionSentences.lastCell(size[1]));
            for (int length = 1; length <= 8; length++) {
                x.setWord(0, length, 1);
                int period = 1;
                while (period * (size[1] - 1) % length != 0) {
                    period++;
                }
                Check.due("orbit(0, 0) of a shift", 0, x.orbit(0, 0));
                Check.due("orbit(0, 1) of a shift", period, x.orbit(0, 1));
                x.setWord(0, length, 0);
                Check.due("orbit(0, 1) of a word that is its own image", 1, x.orbit(0, 1));
            }
        }
        // A word that never comes again itself, before words that do.
        PreimageAnalyzer y = Check.numbered(2, 3, 90);
        y.setWord(0, 7, 1);
        Check.due("orbit(0, 0) of 0000001", 1, y.orbit(0, 0));
        Check.due("orbit(0, 1) of 0000001", 7, y.orbit(0, 1));
    }

    private static void wordAfterOrbit() {
        Sentences.about("Promise 20", "Follows the word in a register by cyclic images until a word occurs for the "
                + "second time.");
        PreimageAnalyzer x = Check.filled();
        String before = Check.stateOf(x);
        x.orbit(2, 0);
        x.orbit(2, 1);
        Check.due("the state after orbit", before, Check.stateOf(x));
    }

    private static void noRegisterForOrbit() {
        Sentences.about("Promise 20", "Throws `IndexOutOfBoundsException` if there is no such register");
        PreimageAnalyzer x = Check.filled();
        Check.refusesOutside(x, 0, 3, "orbit", Check.INDEX, register -> x.orbit(register, 0));
        Check.refusesOutside(x, 0, 3, "orbit", Check.INDEX, register -> x.orbit(register, 1));
    }

    private static void noPartOfAnOrbit() {
        Sentences.about("Promise 20", "or what is not 0 or 1");
        PreimageAnalyzer x = Check.filled();
        for (int i = 0; i < 4; i++) {
            int register = i;
            Check.refusesOutside(x, 0, 1, "orbit of " + i, Check.INDEX, what -> x.orbit(register, what));
        }
    }

    private static void lengthsWithoutOrbit() {
        Sentences.about("Promise 20",
                "Throws `IllegalStateException` if the length of the word is 0 or greater than 8");
        for (int[] size : Check.SIZES) {
            PreimageAnalyzer x = Check.formed(size[0], size[1], "a");
            for (int length = 0; length <= 14; length++) {
                x.setWord(0, length, Model.power(size[0], length) - 1);
                for (int i = 0; i < 2; i++) {
                    int what = i;
                    if (length >= 1 && length <= 8) {
                        Check.due("orbit of " + length + " cells", what, x.orbit(0, what));
                    } else {
                        Check.refuses(x, "orbit of " + length + " cells", Check.STATE, () -> x.orbit(0, what));
                    }
                }
            }
        }
    }
}

/** Promises 15 to 20: setWord, wordLength, wordIndex, cell, apply, orbit. */
public final class RegistersTest {
    private static final int[] NO_REGISTERS = {-1, 4, Integer.MIN_VALUE, Integer.MAX_VALUE};

    public static void main(String[] args) {
        setWord();
        lengthAndIndex();
        cell();
        image();
        cyclicImage();
        applyRefuses();
        orbit();
        longOrbit();
        orbitRefuses();
        Check.end();
    }

    private static void setWord() {
        PreimageAnalyzer x = new PreimageAnalyzer();
        Check.due("setWord(3, 14, 16383)", 0, x.setWord(3, 14, 16383));
        Check.due("setWord(3, 5, 31)", 14, x.setWord(3, 5, 31));
        Check.due("setWord(3, 0, 0)", 5, x.setWord(3, 0, 0));
        Check.due("setWord(3, 1, 1)", 0, x.setWord(3, 1, 1));
        Check.due("another register", 0, x.wordLength(2));
        for (int register : NO_REGISTERS) {
            Check.refuses(x, "setWord(" + register + ", 1, 1)", Check.INDEX, () -> x.setWord(register, 1, 1));
            Check.refuses(x, "setWord(" + register + ", 15, 1)", Check.INDEX, () -> x.setWord(register, 15, 1));
        }
        int[][] wrong = {{15, 0}, {-1, 0}, {0, 1}, {0, -1}, {3, 8}, {3, -1}, {14, 16384}, {1, 2}, {16, 5},
            {Integer.MAX_VALUE, 0}, {Integer.MIN_VALUE, 0}, {14, Integer.MAX_VALUE}, {14, Integer.MIN_VALUE}};
        for (int[] word : wrong) {
            Check.refuses(x, "setWord(3, " + word[0] + ", " + word[1] + ")", Check.ARGUMENT,
                    () -> x.setWord(3, word[0], word[1]));
        }
        PreimageAnalyzer y = Check.sized(3, 3);
        Check.due("setWord of three states", 0, y.setWord(0, 14, 4782968));
        Check.due("its index", 4782968, y.wordIndex(0));
        Check.refuses(y, "setWord(0, 14, 4782969)", Check.ARGUMENT, () -> y.setWord(0, 14, 4782969));
        Check.refuses(y, "setWord(0, 2, 9)", Check.ARGUMENT, () -> y.setWord(0, 2, 9));
    }

    private static void lengthAndIndex() {
        PreimageAnalyzer x = new PreimageAnalyzer();
        for (int i = 0; i < 4; i++) {
            x.setWord(i, 4 + i, 9 + i);
        }
        for (int i = 0; i < 4; i++) {
            Check.due("wordLength(" + i + ")", 4 + i, x.wordLength(i));
            Check.due("wordIndex(" + i + ")", 9 + i, x.wordIndex(i));
        }
        x.setWord(1, 0, 0);
        Check.due("the index of the empty word", 0, x.wordIndex(1));
        for (int register : NO_REGISTERS) {
            Check.refuses(x, "wordLength(" + register + ")", Check.INDEX, () -> x.wordLength(register));
            Check.refuses(x, "wordIndex(" + register + ")", Check.INDEX, () -> x.wordIndex(register));
        }
    }

    private static void cell() {
        PreimageAnalyzer x = Check.sized(3, 2);
        x.setWord(2, 5, 1 * 81 + 0 * 27 + 2 * 9 + 2 * 3 + 1);
        int[] cells = {1, 0, 2, 2, 1};
        for (int i = 0; i < 5; i++) {
            Check.due("cell(2, " + i + ")", cells[i], x.cell(2, i));
        }
        for (int cell : new int[] {-1, 5, Integer.MIN_VALUE, Integer.MAX_VALUE}) {
            Check.refuses(x, "cell(2, " + cell + ")", Check.INDEX, () -> x.cell(2, cell));
        }
        Check.refuses(x, "cell(0, 0) of the empty word", Check.INDEX, () -> x.cell(0, 0));
        for (int register : NO_REGISTERS) {
            Check.refuses(x, "cell(" + register + ", 0)", Check.INDEX, () -> x.cell(register, 0));
        }
    }

    private static void image() {
        PreimageAnalyzer x = Check.numbered(2, 3, 110);
        x.setWord(0, 8, 0b00010011);
        Check.due("apply(0, false)", 6, x.apply(0, false));
        Check.due("wordIndex(0)", 0b011011, x.wordIndex(0));
        Check.due("apply(0, false)", 4, x.apply(0, false));
        Check.due("wordIndex(0)", 0b1111, x.wordIndex(0));
        Check.due("apply(0, false)", 2, x.apply(0, false));
        Check.due("wordIndex(0)", 0, x.wordIndex(0));
        Check.refuses(x, "apply(0, false) of two cells", Check.STATE, () -> x.apply(0, false));
        PreimageAnalyzer y = Check.formed(3, 3, "a+2*b+c");
        y.setWord(1, 3, 14);
        Check.due("apply(1, false)", 1, y.apply(1, false));
        Check.due("wordIndex(1)", (1 + 2 * 1 + 2) % 3, y.wordIndex(1));
        y.setWord(1, 14, 4782968);
        Check.due("apply of the longest word", 12, y.apply(1, false));
        Check.due("wordIndex(1)", (531441 - 1), y.wordIndex(1));
    }

    private static void cyclicImage() {
        PreimageAnalyzer x = Check.numbered(2, 3, 110);
        x.setWord(0, 8, 0b00010011);
        Check.due("apply(0, true)", 8, x.apply(0, true));
        Check.due("wordIndex(0)", 0b01101110, x.wordIndex(0));
        x.setWord(0, 1, 1);
        Check.due("apply(0, true) of one cell", 1, x.apply(0, true));
        Check.due("wordIndex(0)", 0, x.wordIndex(0));
        PreimageAnalyzer y = Check.formed(2, 4, "a*d+c");
        y.setWord(3, 2, 0b10);
        // The neighborhoods are 1010 and 0101.
        Check.due("apply(3, true) of two cells", 2, y.apply(3, true));
        Check.due("wordIndex(3)", 0b10, y.wordIndex(3));
        y.setWord(3, 3, 0b101);
        // The neighborhoods are 1011, 0110 and 1101.
        y.apply(3, true);
        Check.due("wordIndex(3)", 0b011, y.wordIndex(3));
        PreimageAnalyzer wide = Check.formed(2, 4, "d");
        wide.setWord(0, 14, 0b11000000000101);
        Check.due("apply(0, true) of the longest word and width", 14, wide.apply(0, true));
        Check.due("wordIndex(0)", 0b00000000101110, wide.wordIndex(0));
        PreimageAnalyzer z = Check.formed(3, 3, "c");
        z.setWord(2, 14, 1);
        Check.due("apply(2, true) of the longest word", 14, z.apply(2, true));
        Check.due("wordIndex(2)", 9, z.wordIndex(2));
    }

    private static void applyRefuses() {
        PreimageAnalyzer x = Check.numbered(2, 4, 27030);
        Check.refuses(x, "apply(0, true) of the empty word", Check.STATE, () -> x.apply(0, true));
        Check.refuses(x, "apply(0, false) of the empty word", Check.STATE, () -> x.apply(0, false));
        x.setWord(1, 3, 5);
        Check.refuses(x, "apply(1, false) of three cells", Check.STATE, () -> x.apply(1, false));
        for (int register : NO_REGISTERS) {
            Check.refuses(x, "apply(" + register + ", true)", Check.INDEX, () -> x.apply(register, true));
            Check.refuses(x, "apply(" + register + ", false)", Check.INDEX, () -> x.apply(register, false));
        }
        x.setWord(1, 4, 5);
        Check.due("apply(1, false) of four cells", 1, x.apply(1, false));
    }

    private static void orbitIs(PreimageAnalyzer x, int length, int index, int before, int between) {
        x.setWord(1, length, index);
        Check.due("orbit(1, 0) of " + index, before, x.orbit(1, 0));
        Check.due("orbit(1, 1) of " + index, between, x.orbit(1, 1));
        Check.due("the word stays", index, x.wordIndex(1));
    }

    private static void orbit() {
        PreimageAnalyzer shift = Check.numbered(2, 3, 170);
        orbitIs(shift, 4, 2, 0, 2);
        // The image is the word shifted by two cells.
        orbitIs(shift, 8, 1, 0, 4);
        orbitIs(shift, 7, 1, 0, 7);
        orbitIs(shift, 1, 1, 0, 1);
        PreimageAnalyzer sum = Check.numbered(2, 3, 90);
        orbitIs(sum, 8, 1, 4, 1);
        orbitIs(sum, 7, 1, 1, 7);
        orbitIs(sum, 1, 1, 1, 1);
        PreimageAnalyzer zero = Check.numbered(2, 3, 0);
        orbitIs(zero, 5, 0, 0, 1);
        orbitIs(zero, 5, 9, 1, 1);
        PreimageAnalyzer three = Check.formed(3, 2, "a+1");
        orbitIs(three, 8, 6560, 0, 3);
        orbitIs(three, 8, 0, 0, 3);
    }

    private static void longOrbit() {
        for (int index = 0; index < 6561; index += 97) {
            PreimageAnalyzer x = Check.formed(3, 2, "b+1-(a=1)*(b=2)");
            x.setWord(0, 8, index);
            int before = x.orbit(0, 0);
            int between = x.orbit(0, 1);
            for (int i = 0; i < before; i++) {
                x.apply(0, true);
            }
            int first = x.wordIndex(0);
            for (int i = 0; i < between; i++) {
                Check.due("a word between", true, i == 0 || x.wordIndex(0) != first);
                x.apply(0, true);
            }
            Check.due("the word that occurs twice", first, x.wordIndex(0));
        }
    }

    private static void orbitRefuses() {
        PreimageAnalyzer x = Check.numbered(2, 3, 110);
        Check.refuses(x, "orbit(0, 0) of the empty word", Check.STATE, () -> x.orbit(0, 0));
        x.setWord(0, 9, 1);
        Check.refuses(x, "orbit(0, 1) of nine cells", Check.STATE, () -> x.orbit(0, 1));
        x.setWord(0, 14, 1);
        Check.refuses(x, "orbit(0, 1) of 14 cells", Check.STATE, () -> x.orbit(0, 1));
        for (int what : new int[] {-1, 2, Integer.MIN_VALUE, Integer.MAX_VALUE}) {
            Check.refuses(x, "orbit(0, " + what + ")", Check.INDEX, () -> x.orbit(0, what));
        }
        for (int register : NO_REGISTERS) {
            Check.refuses(x, "orbit(" + register + ", 0)", Check.INDEX, () -> x.orbit(register, 0));
        }
    }
}

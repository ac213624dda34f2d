/** Promises 21 to 26: preimageCount, preimage, preimagesBetween, wordsWith, mostPreimages, fixedWords. */
public final class PreimagesTest {
    private static final int[] NO_REGISTERS = {-1, 4, Integer.MIN_VALUE, Integer.MAX_VALUE};

    public static void main(String[] args) {
        preimageCount();
        preimageListing();
        cyclicListing();
        preimageRefuses();
        preimagesBetween();
        wordsWith();
        mostPreimages();
        fixedWords();
        Check.end();
    }

    private static int count(PreimageAnalyzer x, int length, int index, boolean cyclic) {
        x.setWord(0, length, index);
        return x.preimageCount(0, cyclic);
    }

    private static void preimageCount() {
        PreimageAnalyzer x = Check.numbered(2, 3, 110);
        Check.due("preimages of the empty word", 4, count(x, 0, 0, false));
        Check.due("cyclic preimages of the empty word", 0, count(x, 0, 0, true));
        Check.due("preimages of 0", 3, count(x, 1, 0, false));
        Check.due("preimages of 1", 5, count(x, 1, 1, false));
        Check.due("preimages of 01010", 0, count(x, 5, 10, false));
        Check.due("cyclic preimages of 0", 2, count(x, 1, 0, true));
        Check.due("cyclic preimages of 1", 0, count(x, 1, 1, true));
        PreimageAnalyzer zero = Check.numbered(2, 4, 0);
        Check.due("all preimages of two states", 1 << 17, count(zero, 14, 0, false));
        Check.due("all cyclic preimages of two states", 1 << 14, count(zero, 14, 0, true));
        Check.due("all cyclic preimages of two cells", 4, count(zero, 2, 0, true));
        Check.due("all cyclic preimages of one cell", 2, count(zero, 1, 0, true));
        Check.due("no preimage", 0, count(zero, 14, 16383, false));
        Check.due("no cyclic preimage", 0, count(zero, 14, 1, true));
        PreimageAnalyzer three = Check.sized(3, 3);
        Check.due("all preimages of three states", 43046721, count(three, 14, 0, false));
        Check.due("all cyclic preimages of three states", 4782969, count(three, 14, 0, true));
        Check.due("all cyclic preimages of one cell", 3, count(three, 1, 0, true));
        for (int register : NO_REGISTERS) {
            Check.refuses(x, "preimageCount(" + register + ", true)", Check.INDEX,
                    () -> x.preimageCount(register, true));
            Check.refuses(x, "preimageCount(" + register + ", false)", Check.INDEX,
                    () -> x.preimageCount(register, false));
        }
    }

    /** All preimages are in ascending order, have the word as their image, and no other word has. */
    private static void listsAll(PreimageAnalyzer x, int length, int index, boolean cyclic) {
        x.setWord(0, length, index);
        int count = x.preimageCount(0, cyclic);
        int longer = cyclic ? length : length + x.size(1) - 1;
        int previous = -1;
        for (int i = 0; i < count; i++) {
            int found = x.preimage(0, cyclic, i, 1);
            Check.due("the order", true, found > previous);
            Check.due("wordIndex(1)", found, x.wordIndex(1));
            Check.due("wordLength(1)", longer, x.wordLength(1));
            if (length > 0) {
                x.apply(1, cyclic);
                Check.due("the image", index, x.wordIndex(1));
            }
            previous = found;
        }
        Check.refuses(x, "preimage behind the last", Check.ELEMENT, () -> x.preimage(0, cyclic, count, 1));
        Check.refuses(x, "preimage before the first", Check.ELEMENT, () -> x.preimage(0, cyclic, -1, 1));
        Check.refuses(x, "preimage far off", Check.ELEMENT, () -> x.preimage(0, cyclic, Integer.MAX_VALUE, 1));
        Check.refuses(x, "preimage far off", Check.ELEMENT, () -> x.preimage(0, cyclic, Integer.MIN_VALUE, 1));
        Check.due("the word stays", index, x.wordIndex(0));
    }

    private static void preimageListing() {
        PreimageAnalyzer x = Check.numbered(2, 3, 110);
        listsAll(x, 0, 0, false);
        listsAll(x, 6, 0b011011, false);
        listsAll(x, 5, 10, false);
        listsAll(Check.numbered(2, 4, 54000), 9, 333, false);
        listsAll(Check.formed(3, 3, "a*b+c"), 5, 100, false);
        listsAll(Check.formed(3, 2, "a*b"), 7, 54, false);
        x.setWord(2, 1, 0);
        int[] zeros = {0b000, 0b100, 0b111};
        for (int i = 0; i < 3; i++) {
            Check.due("preimage(2, false, " + i + ", 3)", zeros[i], x.preimage(2, false, i, 3));
        }
        Check.due("preimage into the same register", 4, x.preimage(2, false, 1, 2));
        Check.due("its length", 3, x.wordLength(2));
        Check.due("its index", 4, x.wordIndex(2));
        PreimageAnalyzer three = Check.sized(3, 3);
        three.setWord(0, 12, 0);
        Check.due("the last preimage of 14 cells", 4782968, three.preimage(0, false, 4782968, 0));
        Check.due("its length", 14, three.wordLength(0));
    }

    private static void cyclicListing() {
        for (int length = 1; length <= 6; length++) {
            listsAll(Check.numbered(2, 4, 27030), length, 0, true);
            listsAll(Check.numbered(2, 4, 4), length, 0, true);
            listsAll(Check.numbered(2, 3, 110), length, (1 << length) / 2, true);
            listsAll(Check.formed(3, 3, "a*b"), length, 0, true);
            listsAll(Check.formed(3, 2, "a-b"), length, 0, true);
        }
        PreimageAnalyzer x = Check.sized(3, 3);
        x.setWord(0, 14, 0);
        Check.due("the last cyclic preimage", 4782968, x.preimage(0, true, 4782968, 3));
        Check.due("the first cyclic preimage", 0, x.preimage(0, true, 0, 3));
        Check.due("a cyclic preimage", 12345, x.preimage(0, true, 12345, 0));
        PreimageAnalyzer y = Check.sized(2, 4);
        y.setWord(0, 2, 0);
        for (int i = 0; i < 4; i++) {
            Check.due("a cyclic preimage of two cells", i, y.preimage(0, true, i, 1));
            Check.due("its length", 2, y.wordLength(1));
        }
    }

    private static void preimageRefuses() {
        PreimageAnalyzer x = Check.sized(2, 3);
        x.setWord(0, 13, 0);
        x.setWord(1, 12, 1);
        for (int register : NO_REGISTERS) {
            Check.refuses(x, "preimage(" + register + ", ..)", Check.INDEX, () -> x.preimage(register, false, 0, 0));
            Check.refuses(x, "preimage(0, .., " + register + ")", Check.INDEX,
                    () -> x.preimage(0, false, 0, register));
        }
        Check.refuses(x, "preimage of 15 cells", Check.STATE, () -> x.preimage(0, false, 0, 1));
        Check.refuses(x, "preimage of 15 cells without number", Check.STATE, () -> x.preimage(0, false, -1, 1));
        Check.refuses(x, "preimage that is not there", Check.ELEMENT, () -> x.preimage(1, false, 0, 1));
        Check.refuses(x, "cyclic preimage of the empty word", Check.ELEMENT, () -> x.preimage(2, true, 0, 1));
        Check.due("a cyclic preimage of 13 cells", 0, x.preimage(0, true, 0, 1));
        Check.due("a preimage of the empty word", 3, x.preimage(2, false, 3, 3));
        Check.due("its length", 2, x.wordLength(3));
        PreimageAnalyzer y = Check.sized(2, 2);
        y.setWord(0, 13, 0);
        Check.due("a preimage of 14 cells", 16383, y.preimage(0, false, 16383, 0));
        PreimageAnalyzer z = Check.sized(2, 4);
        z.setWord(0, 12, 0);
        Check.refuses(z, "preimage of 15 cells", Check.STATE, () -> z.preimage(0, false, 0, 0));
    }

    private static void preimagesBetween() {
        PreimageAnalyzer x = Check.sized(2, 3);
        for (int first = 0; first < 4; first++) {
            for (int last = 0; last < 4; last++) {
                x.setWord(0, 0, 0);
                Check.due("between of the empty word", first == last ? 1 : 0, x.preimagesBetween(0, first, last));
                x.setWord(0, 1, 0);
                Check.due("between of one cell", (first & 1) == last >> 1 ? 1 : 0,
                        x.preimagesBetween(0, first, last));
                x.setWord(0, 14, 0);
                Check.due("between of 14 cells", 1 << 12, x.preimagesBetween(0, first, last));
            }
        }
        x.setNumber(110);
        x.setWord(3, 2, 1);
        // Just 0001, 1001 and 1110 have the image 01.
        Check.due("between 00 and 01", 1, x.preimagesBetween(3, 0, 1));
        Check.due("between 00 and 00", 0, x.preimagesBetween(3, 0, 0));
        Check.due("between 10 and 01", 1, x.preimagesBetween(3, 2, 1));
        Check.due("between 11 and 10", 1, x.preimagesBetween(3, 3, 2));
        for (int node : new int[] {-1, 4, Integer.MIN_VALUE, Integer.MAX_VALUE}) {
            Check.refuses(x, "preimagesBetween(0, " + node + ", 0)", Check.INDEX,
                    () -> x.preimagesBetween(0, node, 0));
            Check.refuses(x, "preimagesBetween(0, 0, " + node + ")", Check.INDEX,
                    () -> x.preimagesBetween(0, 0, node));
        }
        for (int register : NO_REGISTERS) {
            Check.refuses(x, "preimagesBetween(" + register + ", 0, 0)", Check.INDEX,
                    () -> x.preimagesBetween(register, 0, 0));
        }
    }

    private static void wordsWith() {
        PreimageAnalyzer x = Check.numbered(2, 3, 110);
        Check.due("wordsWith(0, 4)", 1, x.wordsWith(0, 4));
        Check.due("wordsWith(0, 0)", 0, x.wordsWith(0, 0));
        Check.due("wordsWith(1, 3)", 1, x.wordsWith(1, 3));
        Check.due("wordsWith(1, 5)", 1, x.wordsWith(1, 5));
        Check.due("wordsWith(5, 0)", 1, x.wordsWith(5, 0));
        Check.due("wordsWith(5, -1)", 0, x.wordsWith(5, -1));
        Check.due("wordsWith(5, 1000)", 0, x.wordsWith(5, 1000));
        wordsWithBehindThreeStates();
        int words = 0;
        int preimages = 0;
        for (int count = 0; count <= 128; count++) {
            int found = x.wordsWith(7, count);
            words += found;
            preimages += found * count;
        }
        Check.due("all words", 128, words);
        Check.due("all preimages", 512, preimages);
        Check.due("wordsWith(7, 0) of a constant", 2186, Check.sized(3, 3).wordsWith(7, 0));
        Check.due("wordsWith(7, 19683) of a constant", 1, Check.sized(3, 3).wordsWith(7, 19683));
        Check.due("wordsWith(7, 9) of a surjective rule", 2187, Check.formed(3, 3, "a+b*c").wordsWith(7, 9));
        for (int length : new int[] {-1, 8, Integer.MIN_VALUE, Integer.MAX_VALUE}) {
            Check.refuses(x, "wordsWith(" + length + ", 1)", Check.ARGUMENT, () -> x.wordsWith(length, 1));
        }
    }

    /** What a call with three states leaves in the rows must not count for two. */
    private static void wordsWithBehindThreeStates() {
        PreimageAnalyzer x = Check.sized(3, 3);
        x.setWord(0, 14, 4782968);
        x.preimageCount(0, false);
        x.setSize(2, 3);
        x.setNumber(90);
        Check.due("wordsWith(7, 4) of 90", 128, x.wordsWith(7, 4));
        x.setSize(3, 3);
        x.setWord(0, 14, 4782968);
        x.preimageCount(0, false);
        x.setSize(2, 2);
        Check.due("mostPreimages(7) of a constant", 256, x.mostPreimages(7));
    }

    private static void mostPreimages() {
        PreimageAnalyzer x = Check.numbered(2, 3, 110);
        Check.due("mostPreimages(0)", 4, x.mostPreimages(0));
        Check.due("mostPreimages(1)", 5, x.mostPreimages(1));
        Check.due("mostPreimages(3)", 9, x.mostPreimages(3));
        Check.due("mostPreimages(7) of a constant", 19683, Check.sized(3, 3).mostPreimages(7));
        Check.due("mostPreimages(7) of a surjective rule", 8, Check.formed(2, 4, "a+b*c*d").mostPreimages(7));
        for (int length : new int[] {-1, 8, Integer.MIN_VALUE, Integer.MAX_VALUE}) {
            Check.refuses(x, "mostPreimages(" + length + ")", Check.ARGUMENT, () -> x.mostPreimages(length));
        }
    }

    private static void fixedWords() {
        PreimageAnalyzer first = Check.formed(2, 3, "a");
        PreimageAnalyzer shift = Check.formed(3, 3, "c");
        for (int length = 1; length <= 8; length++) {
            Check.due("fixedWords(" + length + ") of a", 1 << length, first.fixedWords(length));
            // A shift by two cells fixes what has the period 2 or 1.
            Check.due("fixedWords(" + length + ") of c", length % 2 == 0 ? 9 : 3, shift.fixedWords(length));
        }
        PreimageAnalyzer x = Check.numbered(2, 3, 110);
        Check.due("fixedWords(1) of 110", 1, x.fixedWords(1));
        Check.due("fixedWords(8) of 255", 1, Check.numbered(2, 3, 255).fixedWords(8));
        Check.due("fixedWords(1) of 1", 0, Check.numbered(2, 3, 1).fixedWords(1));
        Check.due("fixedWords(2) of b=d", 4, Check.formed(2, 4, "c").fixedWords(2));
        for (int length : new int[] {-1, 0, 9, Integer.MIN_VALUE, Integer.MAX_VALUE}) {
            Check.refuses(x, "fixedWords(" + length + ")", Check.ARGUMENT, () -> x.fixedWords(length));
        }
    }
}

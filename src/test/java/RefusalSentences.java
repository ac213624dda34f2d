/** Tests of the sentences of the document that are about all calls that throw. */
final class RefusalSentences {
    private static final String UNCHANGED = "A method that throws an exception leaves the state unchanged";
    private static final int FULL = 40;

    private RefusalSentences() {
    }

    interface Maker {
        PreimageAnalyzer make();
    }

    /** An object that has something of everything: a rule, words, a text, an error, and something else saved. */
    private static PreimageAnalyzer rich(int states, int width, long number) {
        PreimageAnalyzer x = Check.numbered(3, 2, 12345);
        x.setWord(0, 2, 5);
        x.setWord(3, 14, 4782968);
        x.save();
        x.setSize(states, width);
        x.setNumber(number);
        Check.write(x, "a+d+c+");
        Check.answer(x::compile);
        x.setWord(1, 1, 1);
        x.setWord(2, 9, 300);
        x.setWord(3, 14, 16383);
        Check.write(x, "1-b*a");
        return x;
    }

    private static PreimageAnalyzer ofRule110() {
        return rich(2, 3, 110);
    }

    private static PreimageAnalyzer full() {
        PreimageAnalyzer x = ofRule110();
        Check.write(x, "+1".repeat(16) + "*!a");
        return x;
    }

    private static PreimageAnalyzer neverSaved() {
        PreimageAnalyzer x = Check.numbered(2, 2, 9);
        x.setWord(0, 5, 5);
        return x;
    }

    private static PreimageAnalyzer savedWide() {
        PreimageAnalyzer x = rich(2, 3, 110);
        x.save();
        x.setOutput(0, 1);
        x.setWord(1, 3, 3);
        return x;
    }

    /** Two objects are made alike and one is asked; then both must answer alike, whatever they are asked. */
    private static void changesNothing(Maker maker, String what, Class<? extends RuntimeException> want,
            Check.Asking call) {
        PreimageAnalyzer asked = maker.make();
        PreimageAnalyzer left = maker.make();
        Check.fails(what, want, () -> call.ask(asked));
        Check.due("everything behind " + what, everything(left), everything(asked));
    }

    /** All that an object shows, its text and what it has saved included. */
    private static String everything(PreimageAnalyzer x) {
        StringBuilder text = new StringBuilder(Check.stateOf(x));
        text.append(" | ").append(Check.answer(x::subsets)).append(Check.answer(x::cyclicPairs));
        for (int i = 0; i < 4; i++) {
            int register = i;
            text.append(' ').append(Check.answer(() -> x.preimageCount(register, false)));
            text.append(' ').append(Check.answer(() -> x.preimageCount(register, true)));
        }
        text.append(" | ").append(Check.answer(x::compile)).append(' ').append(Check.stateOf(x));
        text.append(" | ").append(Check.answer(x::compose)).append(' ').append(Check.stateOf(x));
        text.append(" | ").append(Check.answer(x::restore)).append(' ').append(Check.stateOf(x));
        return text.toString();
    }

    private static void refusedCallsOfRules() {
        Sentences.about("Description", UNCHANGED);
        Maker maker = RefusalSentences::ofRule110;
        changesNothing(maker, "setSize(2, 5)", Check.ARGUMENT, x -> x.setSize(2, 5));
        changesNothing(maker, "setSize(3, 4)", Check.ARGUMENT, x -> x.setSize(3, 4));
        changesNothing(maker, "setSize(4, 2)", Check.ARGUMENT, x -> x.setSize(4, 2));
        changesNothing(maker, "setSize(1, 3)", Check.ARGUMENT, x -> x.setSize(1, 3));
        changesNothing(maker, "setSize(2, 1)", Check.ARGUMENT, x -> x.setSize(2, 1));
        changesNothing(maker, "size(4)", Check.INDEX, x -> x.size(4));
        changesNothing(maker, "size(-1)", Check.INDEX, x -> x.size(-1));
        changesNothing(maker, "setOutput(8, 1)", Check.INDEX, x -> x.setOutput(8, 1));
        changesNothing(maker, "setOutput(-1, 1)", Check.INDEX, x -> x.setOutput(-1, 1));
        changesNothing(maker, "setOutput(0, 2)", Check.ARGUMENT, x -> x.setOutput(0, 2));
        changesNothing(maker, "setOutput(7, -1)", Check.ARGUMENT, x -> x.setOutput(7, -1));
        changesNothing(maker, "output(8)", Check.INDEX, x -> x.output(8));
        changesNothing(maker, "output(-1)", Check.INDEX, x -> x.output(-1));
        changesNothing(maker, "setNumber(256)", Check.ARGUMENT, x -> x.setNumber(256));
        changesNothing(maker, "setNumber(-1)", Check.ARGUMENT, x -> x.setNumber(-1));
        changesNothing(maker, "error(2)", Check.INDEX, x -> x.error(2));
        changesNothing(maker, "error(-1)", Check.INDEX, x -> x.error(-1));
        changesNothing(maker, "compose() with other states", Check.STATE, PreimageAnalyzer::compose);
        changesNothing(RefusalSentences::neverSaved, "compose()", Check.STATE, PreimageAnalyzer::compose);
        changesNothing(RefusalSentences::savedWide, "compose() to width 5", Check.STATE, PreimageAnalyzer::compose);
        changesNothing(RefusalSentences::neverSaved, "restore()", Check.STATE, PreimageAnalyzer::restore);
    }

    private static void refusedAppend() {
        Sentences.about("Description", UNCHANGED);
        Maker maker = RefusalSentences::ofRule110;
        // The bytes before the wrong one are not taken either.
        changesNothing(maker, "append of a space", Check.ARGUMENT, x -> x.append(' '));
        changesNothing(maker, "append of +1 and a space", Check.ARGUMENT, x -> x.append(Check.pack("+1 ")));
        changesNothing(maker, "append of a wrong byte and +1", Check.ARGUMENT, x -> x.append(Check.pack("\177+1")));
        changesNothing(maker, "append of -1", Check.ARGUMENT, x -> x.append(-1));
        for (int room = 0; room < 4; room++) {
            int left = room;
            Maker almostFull = () -> {
                PreimageAnalyzer x = ofRule110();
                Check.write(x, "a+d+c+1*2%3-4+5*6-7*8+9*a+b+c+a-1+b".substring(0, FULL - 5 - left));
                return x;
            };
            changesNothing(almostFull, "append of four with room for " + room, Check.STATE,
                    x -> x.append(Check.pack("+b*c")));
        }
        Check.due("append(0) to the full buffer", FULL, full().append(0));
        changesNothing(RefusalSentences::full, "append of a space to the full buffer", Check.ARGUMENT,
                x -> x.append(Check.pack(" ")));
        changesNothing(RefusalSentences::full, "append to the full buffer", Check.STATE,
                x -> x.append(Check.pack("a")));
    }

    private static void refusedCallsOfRegisters() {
        Sentences.about("Description", UNCHANGED);
        Maker maker = RefusalSentences::ofRule110;
        changesNothing(maker, "setWord(4, 1, 1)", Check.INDEX, x -> x.setWord(4, 1, 1));
        changesNothing(maker, "setWord(-1, 1, 1)", Check.INDEX, x -> x.setWord(-1, 1, 1));
        changesNothing(maker, "setWord(0, 15, 0)", Check.ARGUMENT, x -> x.setWord(0, 15, 0));
        changesNothing(maker, "setWord(1, -1, 0)", Check.ARGUMENT, x -> x.setWord(1, -1, 0));
        changesNothing(maker, "setWord(2, 3, 8)", Check.ARGUMENT, x -> x.setWord(2, 3, 8));
        changesNothing(maker, "setWord(3, 3, -1)", Check.ARGUMENT, x -> x.setWord(3, 3, -1));
        changesNothing(maker, "wordLength(4)", Check.INDEX, x -> x.wordLength(4));
        changesNothing(maker, "wordIndex(4)", Check.INDEX, x -> x.wordIndex(4));
        changesNothing(maker, "cell(4, 0)", Check.INDEX, x -> x.cell(4, 0));
        changesNothing(maker, "cell(0, 0)", Check.INDEX, x -> x.cell(0, 0));
        changesNothing(maker, "cell(1, 1)", Check.INDEX, x -> x.cell(1, 1));
        changesNothing(maker, "apply(4, true)", Check.INDEX, x -> x.apply(4, true));
        changesNothing(maker, "apply(0, true)", Check.STATE, x -> x.apply(0, true));
        changesNothing(maker, "apply(0, false)", Check.STATE, x -> x.apply(0, false));
        changesNothing(maker, "apply(1, false)", Check.STATE, x -> x.apply(1, false));
        changesNothing(maker, "orbit(4, 0)", Check.INDEX, x -> x.orbit(4, 0));
        changesNothing(maker, "orbit(1, 2)", Check.INDEX, x -> x.orbit(1, 2));
        changesNothing(maker, "orbit(0, 0)", Check.STATE, x -> x.orbit(0, 0));
        changesNothing(maker, "orbit(2, 1)", Check.STATE, x -> x.orbit(2, 1));
    }

    private static void refusedCallsOfPreimages() {
        Sentences.about("Description", UNCHANGED);
        Maker maker = RefusalSentences::ofRule110;
        changesNothing(maker, "preimageCount(4, true)", Check.INDEX, x -> x.preimageCount(4, true));
        changesNothing(maker, "preimage(4, ..)", Check.INDEX, x -> x.preimage(4, false, 0, 0));
        changesNothing(maker, "preimage(.., 4)", Check.INDEX, x -> x.preimage(1, false, 0, 4));
        changesNothing(maker, "preimage(3, false, ..)", Check.STATE, x -> x.preimage(3, false, 0, 0));
        changesNothing(maker, "preimage(1, false, 5, 2)", Check.ELEMENT, x -> x.preimage(1, false, 5, 2));
        changesNothing(maker, "preimage(1, false, -1, 1)", Check.ELEMENT, x -> x.preimage(1, false, -1, 1));
        changesNothing(maker, "preimage(1, true, 0, 1)", Check.ELEMENT, x -> x.preimage(1, true, 0, 1));
        changesNothing(maker, "preimage(0, true, 0, 1)", Check.ELEMENT, x -> x.preimage(0, true, 0, 1));
        changesNothing(maker, "preimagesBetween(4, 0, 0)", Check.INDEX, x -> x.preimagesBetween(4, 0, 0));
        changesNothing(maker, "preimagesBetween(1, 4, 0)", Check.INDEX, x -> x.preimagesBetween(1, 4, 0));
        changesNothing(maker, "preimagesBetween(1, 0, 4)", Check.INDEX, x -> x.preimagesBetween(1, 0, 4));
        changesNothing(maker, "wordsWith(8, 0)", Check.ARGUMENT, x -> x.wordsWith(8, 0));
        changesNothing(maker, "mostPreimages(8)", Check.ARGUMENT, x -> x.mostPreimages(8));
        changesNothing(maker, "fixedWords(0)", Check.ARGUMENT, x -> x.fixedWords(0));
        changesNothing(maker, "fixedWords(9)", Check.ARGUMENT, x -> x.fixedWords(9));
    }

    private static void refusedCallsOfGraph() {
        Sentences.about("Description", UNCHANGED);
        Maker maker = RefusalSentences::ofRule110;
        changesNothing(maker, "edge(4, 0, 0)", Check.INDEX, x -> x.edge(4, 0, 0));
        changesNothing(maker, "edge(0, 2, 0)", Check.INDEX, x -> x.edge(0, 2, 0));
        changesNothing(maker, "edge(0, 0, 2)", Check.INDEX, x -> x.edge(0, 0, 2));
        changesNothing(maker, "orphans(13)", Check.ARGUMENT, x -> x.orphans(13));
        changesNothing(maker, "shortestOrphan(4)", Check.INDEX, x -> x.shortestOrphan(4));
        changesNothing(() -> rich(2, 3, 90), "shortestOrphan(1)", Check.ELEMENT, x -> x.shortestOrphan(1));
        changesNothing(() -> rich(2, 4, 5482), "shortestOrphan(1)", Check.STATE, x -> x.shortestOrphan(1));
        changesNothing(maker, "has(7)", Check.INDEX, x -> x.has(7) ? 1 : 0);
        changesNothing(maker, "inverse(2)", Check.INDEX, x -> x.inverse(2));
        changesNothing(maker, "inverse(0)", Check.ELEMENT, x -> x.inverse(0));
        changesNothing(maker, "inverseOutput(0)", Check.ELEMENT, x -> x.inverseOutput(0));
        changesNothing(() -> rich(2, 3, 51), "inverseOutput(2)", Check.INDEX, x -> x.inverseOutput(2));
    }

    private static void unlessTheDescriptionSaysOtherwise() {
        Sentences.about("Description", "unless its description says otherwise.");
        // compile empties the buffer and tells its error; nothing else changes.
        for (String text : new String[] {"+", ")", "/0", "%0"}) {
            PreimageAnalyzer x = ofRule110();
            Check.write(x, text);
            String before = Check.stateOf(x);
            Check.due("compile()", true, Check.answer(x::compile).startsWith("throws"));
            Check.due("append(0)", 0, x.append(0));
            Check.due("the state but for buffer and error", before.replaceAll(" \\S+ \\S+ \\S+$", ""),
                    Check.stateOf(x).replaceAll(" \\S+ \\S+ \\S+$", ""));
            Check.due("restore()", 12345, x.restore());
        }
    }

    /** Of two exceptions the one that the method's description lists first. */
    private static void firstListedException() {
        Sentences.about("Description",
                "If several exceptions are possible, the one listed first in the description of the method is thrown.");
        PreimageAnalyzer x = ofRule110();
        Check.refuses(x, "setOutput(8, 2)", Check.INDEX, () -> x.setOutput(8, 2));
        Check.refuses(x, "setOutput(-1, -1)", Check.INDEX, () -> x.setOutput(-1, -1));
        Check.refuses(x, "setWord(4, 15, -1)", Check.INDEX, () -> x.setWord(4, 15, -1));
        Check.refuses(x, "setWord(-1, 3, 8)", Check.INDEX, () -> x.setWord(-1, 3, 8));
        Check.refuses(x, "orbit(0, 2) of the empty word", Check.INDEX, () -> x.orbit(0, 2));
        Check.refuses(x, "orbit(2, -1) of nine cells", Check.INDEX, () -> x.orbit(2, -1));
        Check.refuses(x, "preimage(3, false, 0, 4) of 16 cells", Check.INDEX, () -> x.preimage(3, false, 0, 4));
        Check.refuses(x, "preimage(1, false, 5, 4)", Check.INDEX, () -> x.preimage(1, false, 5, 4));
        Check.refuses(x, "preimage(4, false, -1, 0)", Check.INDEX, () -> x.preimage(4, false, -1, 0));
        Check.refuses(x, "preimage(3, false, -1, 0) of 16 cells", Check.STATE, () -> x.preimage(3, false, -1, 0));
        Check.refuses(x, "inverse(2) of 110", Check.INDEX, () -> x.inverse(2));
        Check.refuses(x, "inverseOutput(-1) of 110", Check.ELEMENT, () -> x.inverseOutput(-1));
        for (int before = FULL - 4; before <= FULL; before++) {
            PreimageAnalyzer full = new PreimageAnalyzer();
            Check.write(full, "!".repeat(before));
            Check.refuses(full, "append of a wrong byte to " + before, Check.ARGUMENT,
                    () -> full.append(Check.pack("abc ")));
            Check.refuses(full, "append of a wrong byte to " + before, Check.ARGUMENT,
                    () -> full.append(Check.pack("\177abc")));
        }
        PreimageAnalyzer surjective = rich(2, 3, 90);
        Check.refuses(surjective, "shortestOrphan(4)", Check.INDEX, () -> surjective.shortestOrphan(4));
        PreimageAnalyzer longest = rich(2, 4, 5482);
        Check.refuses(longest, "shortestOrphan(-1)", Check.INDEX, () -> longest.shortestOrphan(-1));
        FormulaCheck.faults(2, 2, "1/0)", 1, 3);
        FormulaCheck.faults(2, 2, "1%0+", 2, 4);
        FormulaCheck.faults(2, 2, "1/0+c", 3, 4);
    }
}

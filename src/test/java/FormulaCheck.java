/** Checks of formulas that several tests make. */
final class FormulaCheck {
    private FormulaCheck() {
    }

    /** The outputs that a formula gives for all neighborhoods in their order. */
    static void gives(int states, int width, String text, String outputs) {
        PreimageAnalyzer x = Check.sized(states, width);
        Check.write(x, text);
        Check.due("compile() of " + text, outputs.replace("0", "").length(), x.compile());
        StringBuilder got = new StringBuilder();
        for (int i = 0; i < x.size(2); i++) {
            got.append(x.output(i));
        }
        Check.due(text, outputs, got.toString());
        Check.due("error(0) of " + text, 0, x.error(0));
        Check.due("error(1) of " + text, -1, x.error(1));
    }

    /** The formula is 1 for all neighborhoods, with three states, so that 1 is not any odd number. */
    static void holds(String text) {
        gives(3, 2, text, "111111111");
    }

    /** The formula has an error of a kind at a place; the table stays, the buffer is empty. */
    static void faults(int states, int width, String text, int kind, int place) {
        PreimageAnalyzer x = Check.sized(states, width);
        x.setOutput(1, 1);
        x.setWord(3, 2, 2);
        Check.write(x, text);
        Check.fails("compile() of " + text, kind < 4 ? Check.ARGUMENT : Check.ARITHMETIC, x::compile);
        Check.due("kind of " + text, kind, x.error(0));
        Check.due("place of " + text, place, x.error(1));
        Check.due("number() after " + text, states, x.number());
        Check.due("wordIndex(3) after " + text, 2, x.wordIndex(3));
        Check.due("the buffer after " + text, 0, x.append(0));
    }
}

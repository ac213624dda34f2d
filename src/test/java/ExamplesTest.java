/** The calls under "Examples" in the document. */
public final class ExamplesTest {
    public static void main(String[] args) {
        rule110();
        ruleByFormula();
        inverse();
        errors();
        orbits();
        Check.end();
    }

    private static void rule110() {
        PreimageAnalyzer x = new PreimageAnalyzer();
        Check.due("setNumber(110)", 5, x.setNumber(110L));
        Check.due("has(0)", false, x.has(0));
        Check.due("shortestOrphan(0)", 5, x.shortestOrphan(0));
        Check.due("wordIndex(0)", 10, x.wordIndex(0));
        Check.due("orphans(5)", 1, x.orphans(5));
        Check.due("preimageCount(0, false)", 0, x.preimageCount(0, false));
    }

    private static void ruleByFormula() {
        PreimageAnalyzer x = new PreimageAnalyzer();
        Check.due("append(6368099)", 3, x.append(6368099));
        Check.due("compile()", 4, x.compile());
        Check.due("number()", 90, x.number());
        Check.due("setWord(0, 3, 5)", 0, x.setWord(0, 3, 5));
        Check.due("preimageCount(0, false)", 4, x.preimageCount(0, false));
        Check.due("preimage(0, false, 1, 1)", 14, x.preimage(0, false, 1, 1));
        Check.due("apply(1, false)", 3, x.apply(1, false));
        Check.due("wordIndex(1)", 5, x.wordIndex(1));
        Check.due("preimageCount(0, true)", 2, x.preimageCount(0, true));
    }

    private static void inverse() {
        PreimageAnalyzer x = new PreimageAnalyzer();
        Check.due("setSize(2, 2)", 4, x.setSize(2, 2));
        Check.due("append(3222882)", 3, x.append(3222882));
        Check.due("compile()", 2, x.compile());
        Check.due("has(1)", true, x.has(1));
        Check.due("inverse(0)", 1, x.inverse(0));
        Check.due("inverse(1)", 1, x.inverse(1));
        Check.due("inverseOutput(0)", 1, x.inverseOutput(0));
    }

    private static void errors() {
        PreimageAnalyzer x = new PreimageAnalyzer();
        Check.due("append(6369122)", 3, x.append(6369122));
        Check.fails("compile()", Check.ARITHMETIC, x::compile);
        Check.due("error(0)", 4, x.error(0));
        Check.due("error(1)", 0, x.error(1));
        Check.due("append(6368100)", 3, x.append(6368100));
        Check.fails("compile()", Check.ARGUMENT, x::compile);
        Check.due("error(0)", 3, x.error(0));
        Check.due("error(1)", 2, x.error(1));
    }

    private static void orbits() {
        PreimageAnalyzer x = new PreimageAnalyzer();
        Check.due("setNumber(170)", 4, x.setNumber(170L));
        Check.due("setWord(0, 4, 2)", 0, x.setWord(0, 4, 2));
        Check.due("orbit(0, 0)", 0, x.orbit(0, 0));
        Check.due("orbit(0, 1)", 2, x.orbit(0, 1));
        Check.due("fixedWords(3)", 2, x.fixedWords(3));
        Check.due("mostPreimages(2)", 4, x.mostPreimages(2));
        Check.due("wordsWith(2, 4)", 4, x.wordsWith(2, 4));
    }
}

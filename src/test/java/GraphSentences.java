/** Tests of the sentences of promises 27 to 36. */
final class GraphSentences {
    private static final String NO_REGISTER = "Throws `IndexOutOfBoundsException` if there is no such register";
    private static final String NO_INVERSE = "Throws `java` .util.NoSuchElementException if there is no inverse";

    private GraphSentences() {
    }

    // Promise 27: edge.

    private static void partsOfAnEdge() {
        Sentences.about("Promise 27", "0 for the node to which it leads, 1 for its label");
        for (int[] size : Check.SIZES) {
            PreimageAnalyzer x = Check.formed(size[0], size[1], "a+b*b+1");
            int n = x.size(3);
            for (int index = 0; index < x.size(2); index++) {
                int node = index / size[0];
                Check.due("edge(" + node + ", .., 0)", index % n, x.edge(node, index % size[0], 0));
                Check.due("edge(" + node + ", .., 1)", x.output(index), x.edge(node, index % size[0], 1));
            }
        }
    }

    private static void noNodeOfAnEdge() {
        Sentences.about("Promise 27", "Throws `IndexOutOfBoundsException` if there is no such node");
        for (int[] size : Check.SIZES) {
            PreimageAnalyzer x = Check.sized(size[0], size[1]);
            Check.refusesOutside(x, 0, x.size(3) - 1, "edge, node", Check.INDEX, node -> x.edge(node, 0, 0));
            Check.refusesOutside(x, 0, x.size(3) - 1, "edge, node", Check.INDEX, node -> x.edge(node, 1, 1));
        }
    }

    private static void noStateOfAnEdge() {
        Sentences.about("Promise 27", "no such node, state");
        for (int[] size : Check.SIZES) {
            PreimageAnalyzer x = Check.sized(size[0], size[1]);
            Check.refusesOutside(x, 0, size[0] - 1, "edge, state", Check.INDEX, state -> x.edge(0, state, 0));
            Check.refusesOutside(x, 0, size[0] - 1, "edge, state", Check.INDEX, state -> x.edge(1, state, 1));
        }
    }

    private static void noPartOfAnEdge() {
        Sentences.about("Promise 27", "or part");
        for (int[] size : Check.SIZES) {
            PreimageAnalyzer x = Check.sized(size[0], size[1]);
            Check.refusesOutside(x, 0, 1, "edge, part", Check.INDEX, what -> x.edge(0, 0, what));
            Check.refusesOutside(x, 0, 1, "edge, part", Check.INDEX, what -> x.edge(1, 1, what));
        }
    }

    // Promise 28: subsets.

    private static void emptySetAmongSubsets() {
        Sentences.about("Promise 28", "Returns the number of states, the empty set included if it is one of them.");
        PreimageAnalyzer x = new PreimageAnalyzer();
        for (int[] size : Check.SIZES) {
            x.setSize(size[0], size[1]);
            // All nodes and none.
            Check.due("subsets() of a constant", 2, x.subsets());
            Check.write(x, "a");
            x.compile();
            // All nodes alone.
            Check.due("subsets() of a", 1, x.subsets());
        }
    }

    private static void allSubsets() {
        Sentences.about("Promise 28", "Returns the number of states of the subset automaton.");
        Check.due("subsets() of 22, all of 4 nodes", 16, Check.numbered(2, 3, 22).subsets());
        Check.due("subsets() of 5482, all of 8 nodes", 256, Check.numbered(2, 4, 5482).subsets());
        Check.due("subsets(), all of 9 nodes", 512, Check.numbered(3, 3, 5986202329676L).subsets());
    }

    // Promise 29: orphans.

    private static void lengthsOfOrphans() {
        Sentences.about("Promise 29", "the length, 0 to 12");
        for (int[] size : Check.SIZES) {
            PreimageAnalyzer x = Check.sized(size[0], size[1]);
            PreimageAnalyzer y = Check.formed(size[0], size[1], "a");
            for (int length = 0; length <= 12; length++) {
                Check.due("orphans(" + length + ") of a constant", Model.power(size[0], length) - 1,
                        x.orphans(length));
                Check.due("orphans(" + length + ") of a", 0, y.orphans(length));
            }
        }
        PreimageAnalyzer z = Check.numbered(2, 3, 110);
        Check.due("orphans(4) of 110", 0, z.orphans(4));
        Check.due("orphans(5) of 110", 1, z.orphans(5));
        Check.due("orphans(12) of 110", 1328, z.orphans(12));
    }

    private static void noLengthOfOrphans() {
        Sentences.about("Promise 29", "Throws `IllegalArgumentException` if the length is out of range");
        PreimageAnalyzer x = Check.numbered(2, 3, 110);
        Check.refusesOutside(x, 0, 12, "orphans", Check.ARGUMENT, x::orphans);
        PreimageAnalyzer surjective = Check.numbered(2, 3, 90);
        Check.refusesOutside(surjective, 0, 12, "orphans", Check.ARGUMENT, surjective::orphans);
    }

    // Promise 30: shortestOrphan.

    private static void firstOfSeveralOrphans() {
        Sentences.about("Promise 30", "Puts the shortest orphan, of several the first one in their order, "
                + "into a register.");
        for (int[] size : Check.SIZES) {
            int k = size[0];
            for (int state = 0; state < k; state++) {
                PreimageAnalyzer x = Check.formed(k, size[1], "" + state);
                for (int register = 0; register < 4; register++) {
                    x.setWord(register, 14, 1);
                    Check.due("shortestOrphan of a constant", 1, x.shortestOrphan(register));
                    Check.due("its index", state == 0 ? 1 : 0, x.wordIndex(register));
                    Check.due("wordLength", 1, x.wordLength(register));
                }
            }
        }
        // With b*c, 101 has no preimage, with 1-b*c it is 010: the only ones of three cells.
        PreimageAnalyzer y = Check.formed(2, 3, "b*c");
        Check.due("shortestOrphan of b*c", 3, y.shortestOrphan(0));
        Check.due("its index", 0b101, y.wordIndex(0));
        PreimageAnalyzer z = Check.formed(2, 3, "1-b*c");
        Check.due("shortestOrphan of 1-b*c", 3, z.shortestOrphan(0));
        Check.due("its index", 0b010, z.wordIndex(0));
    }

    private static void noRegisterForTheOrphan() {
        Sentences.about("Promise 30", NO_REGISTER);
        PreimageAnalyzer x = Check.numbered(2, 3, 110);
        Check.refusesOutside(x, 0, 3, "shortestOrphan", Check.INDEX, x::shortestOrphan);
    }

    private static void noOrphans() {
        Sentences.about("Promise 30", "Throws `java` .util.NoSuchElementException if there are no orphans");
        for (int[] size : Check.SIZES) {
            for (String formula : new String[] {"a", "a+b", DescriptionSentences.lastCell(size[1])}) {
                PreimageAnalyzer x = Check.formed(size[0], size[1], formula);
                x.setWord(1, 3, 5);
                Check.refuses(x, "shortestOrphan of " + formula, Check.ELEMENT, () -> x.shortestOrphan(1));
                Check.refuses(x, "shortestOrphan of " + formula, Check.ELEMENT, () -> x.shortestOrphan(0));
            }
        }
    }

    private static void orphansOfMoreThan14Cells() {
        Sentences.about("Promise 30", "Throws `IllegalStateException` if it has more than 14 cells");
        PreimageAnalyzer x = Check.numbered(2, 4, 21161);
        Check.due("shortestOrphan of 14 cells", 14, x.shortestOrphan(3));
        Check.due("its length", 14, x.wordLength(3));
        Check.due("its preimages", 0, x.preimageCount(3, false));
        PreimageAnalyzer y = Check.numbered(3, 3, 1494564922063L);
        Check.due("shortestOrphan of 14 cells", 14, y.shortestOrphan(0));
        Check.due("its preimages", 0, y.preimageCount(0, false));
        // 15 cells, and 16 or more.
        long[][] longer = {{3, 3, 2178000111700L}, {2, 4, 5482}, {3, 3, 5572492397536L}};
        for (long[] rule : longer) {
            PreimageAnalyzer z = Check.numbered((int) rule[0], (int) rule[1], rule[2]);
            z.setWord(0, 14, 3);
            Check.refuses(z, "shortestOrphan of more cells", Check.STATE, () -> z.shortestOrphan(0));
            Check.refuses(z, "shortestOrphan of more cells", Check.STATE, () -> z.shortestOrphan(1));
        }
    }

    // Promise 31: has.

    private static void properties() {
        Sentences.about("Promise 31", "- `what`: 0 surjective; 1 injective; 2 left permutive; 3 right permutive; "
                + "4 each state is the output of equally many neighborhoods; 5 the rule is its own mirror image; "
                + "6 the rule is its own complement");
        // Each rule has a property that the one before it has not, so that no two numbers mean the same.
        hasJust(Check.formed(2, 3, "b"), "01456");
        hasJust(Check.formed(2, 3, "a"), "01246");
        hasJust(Check.formed(2, 3, "c"), "01346");
        hasJust(Check.formed(2, 3, "a+c"), "02345");
        hasJust(Check.formed(2, 3, "a+b*c"), "024");
        hasJust(Check.formed(2, 3, "a*b+c"), "034");
        hasJust(Check.formed(2, 3, "a*b+b*c+a*c"), "456");
        hasJust(Check.formed(2, 3, "a*b*c"), "5");
        hasJust(Check.formed(3, 2, "min(a,b)"), "5");
        hasJust(Check.formed(3, 2, "1"), "56");
        hasJust(Check.formed(3, 2, "a-b"), "0234");
    }

    private static void hasJust(PreimageAnalyzer x, String properties) {
        StringBuilder got = new StringBuilder();
        for (int what = 0; what <= 6; what++) {
            got.append(x.has(what) ? "" + what : "");
        }
        Check.due("the properties", properties, got.toString());
    }

    private static void equallyManyNeighborhoods() {
        Sentences.about("Promise 31", "4 each state is the output of equally many neighborhoods;");
        lostByOneOutput(4);
    }

    private static void ownMirrorImage() {
        Sentences.about("Promise 31", "5 the rule is its own mirror image;");
        for (int[] size : Check.SIZES) {
            PreimageAnalyzer x = Check.sized(size[0], size[1]);
            Check.due("has(5) of a constant", true, x.has(5));
            x.setOutput(0, 1);
            x.setOutput(x.size(2) - 1, 1);
            Check.due("has(5) with other ends", true, x.has(5));
            x.setOutput(1, 1);
            Check.due("has(5) with one more output", false, x.has(5));
            x.setOutput(x.size(3), 1);
            Check.due("has(5) with that of the reversed cells", true, x.has(5));
        }
    }

    private static void ownComplement() {
        Sentences.about("Promise 31", "6 the rule is its own complement");
        lostByOneOutput(6);
    }

    /** The rule that answers the first cell has the property, and has it no more if any one output changes. */
    private static void lostByOneOutput(int property) {
        for (int[] size : Check.SIZES) {
            PreimageAnalyzer x = Check.formed(size[0], size[1], "a");
            Check.due("has(" + property + ")", true, x.has(property));
            for (int index = 0; index < x.size(2); index++) {
                for (int more = 1; more < size[0]; more++) {
                    int before = x.setOutput(index, (x.output(index) + more) % size[0]);
                    Check.due("has(" + property + ") with another output " + index, false, x.has(property));
                    x.setOutput(index, before);
                }
            }
            Check.due("has(" + property + ") again", true, x.has(property));
        }
    }

    private static void noSuchProperty() {
        Sentences.about("Promise 31", "Throws `IndexOutOfBoundsException` if what is not from 0 to 6");
        for (int[] size : Check.SIZES) {
            PreimageAnalyzer x = Check.formed(size[0], size[1], "a");
            Check.refusesOutside(x, 0, 6, "has", Check.INDEX, what -> x.has(what) ? 1 : 0);
        }
    }

    // Promise 32: cyclicPairs.

    private static void noneAndAllPairs() {
        Sentences.about("Promise 32", "Returns the number of ordered pairs of different nodes that are on a cycle.");
        for (int[] size : Check.SIZES) {
            PreimageAnalyzer x = Check.sized(size[0], size[1]);
            int n = x.size(3);
            Check.due("cyclicPairs() of a constant", n * (n - 1), x.cyclicPairs());
            Check.due("cyclicPairs() of the last cell", 0,
                    Check.formed(size[0], size[1], DescriptionSentences.lastCell(size[1])).cyclicPairs());
        }
        // Of (0, 1) and (1, 0) both or none count.
        for (int number = 0; number < 256; number++) {
            Check.due("cyclicPairs() of " + number, 0, Check.numbered(2, 3, number).cyclicPairs() % 2);
        }
    }

    private static void waysBackThroughEqualNodes() {
        Sentences.about("Promise 32", "pairs of different nodes that are on a cycle.");
        for (int number : new int[] {7, 11, 12, 35, 49, 59, 115, 140, 196}) {
            Model model = new Model();
            model.setNumber(number);
            PreimageAnalyzer x = Check.numbered(2, 3, number);
            Check.due("cyclicPairs() of " + number, model.cyclicPairs(), x.cyclicPairs());
            Check.due("has(1) of " + number, false, x.has(1));
        }
    }

    // Promises 33 and 34: inverse, inverseOutput.

    private static void partsOfAnInverse() {
        Sentences.about("Promise 33", "0 for the length m, 1 for the position p");
        long[][] rules = {{2, 3, 204, 1, 1}, {2, 4, 3915, 4, 2}, {3, 2, 481, 2, 0}, {3, 3, 7378808159385L, 5, 2},
            {3, 3, 6501678619707L, 5, 4}};
        for (long[] rule : rules) {
            PreimageAnalyzer x = Check.numbered((int) rule[0], (int) rule[1], rule[2]);
            Check.due("inverse(0) of " + rule[2], rule[3], x.inverse(0));
            Check.due("inverse(1) of " + rule[2], rule[4], x.inverse(1));
        }
    }

    private static void noPartOfAnInverse() {
        Sentences.about("Promise 33", "Throws `IndexOutOfBoundsException` if what is not 0 or 1");
        PreimageAnalyzer x = Check.numbered(2, 3, 51);
        Check.refusesOutside(x, 0, 1, "inverse", Check.INDEX, x::inverse);
        PreimageAnalyzer y = Check.numbered(2, 3, 110);
        Check.refusesOutside(y, 0, 1, "inverse", Check.INDEX, y::inverse);
    }

    private static void noInverse() {
        Sentences.about("Promise 33", NO_INVERSE);
        for (long[] rule : withoutInverse()) {
            PreimageAnalyzer x = Check.numbered((int) rule[0], (int) rule[1], rule[2]);
            Check.refuses(x, "inverse(0) of " + rule[2], Check.ELEMENT, () -> x.inverse(0));
            Check.refuses(x, "inverse(1) of " + rule[2], Check.ELEMENT, () -> x.inverse(1));
        }
    }

    /** A constant, a rule with orphans, a surjective rule, an injective one whose inverse would be too long. */
    private static long[][] withoutInverse() {
        return new long[][] {{2, 3, 0}, {2, 3, 110}, {2, 3, 90}, {3, 3, 5779933715169L}};
    }

    private static void noInverseToAsk() {
        Sentences.about("Promise 34", NO_INVERSE);
        for (long[] rule : withoutInverse()) {
            PreimageAnalyzer x = Check.numbered((int) rule[0], (int) rule[1], rule[2]);
            for (int index : new int[] {0, 1, -1, 1000, Integer.MIN_VALUE, Integer.MAX_VALUE}) {
                Check.refuses(x, "inverseOutput(" + index + ") of " + rule[2], Check.ELEMENT,
                        () -> x.inverseOutput(index));
            }
        }
        // An inverse that was found before is none of another rule.
        PreimageAnalyzer y = Check.numbered(2, 3, 51);
        Check.due("inverseOutput(1)", 0, y.inverseOutput(1));
        y.setOutput(0, 0);
        Check.refuses(y, "inverseOutput(1)", Check.ELEMENT, () -> y.inverseOutput(1));
        Check.refuses(y, "inverse(0)", Check.ELEMENT, () -> y.inverse(0));
    }

    private static void noWordOfTheInverse() {
        Sentences.about("Promise 34", "Throws `IndexOutOfBoundsException` if there is no such word");
        long[][] rules = {{2, 3, 204, 2}, {2, 4, 3915, 16}, {3, 2, 481, 9}, {3, 3, 7378808159385L, 243}};
        for (long[] rule : rules) {
            PreimageAnalyzer x = Check.numbered((int) rule[0], (int) rule[1], rule[2]);
            int words = (int) rule[3];
            for (int index = 0; index < words; index++) {
                int output = x.inverseOutput(index);
                Check.due("a state", true, output >= 0 && output < rule[0]);
            }
            Check.refusesOutside(x, 0, words - 1, "inverseOutput", Check.INDEX, x::inverseOutput);
        }
        PreimageAnalyzer y = Check.formed(3, 2, "b+1");
        Check.due("inverseOutput(0) of b+1", 2, y.inverseOutput(0));
        Check.due("inverseOutput(2) of b+1", 1, y.inverseOutput(2));
        Check.refuses(y, "inverseOutput(3) of b+1", Check.INDEX, () -> y.inverseOutput(3));
    }

    // Promises 35 and 36: save, restore.

    private static void saveReplaces() {
        Sentences.about("Promise 35", "Saves the rule, with its number of states and its width, and the registers, "
                + "replacing what was saved before.");
        PreimageAnalyzer x = Check.numbered(3, 3, 7625597484986L);
        for (int i = 0; i < 4; i++) {
            x.setWord(i, 14, 4782968 - i);
        }
        String before = Check.stateOf(x);
        Check.due("save()", 7625597484986L, x.save());
        Check.due("the state after save()", before, Check.stateOf(x));
        x.setSize(2, 2);
        x.setNumber(6);
        x.setWord(2, 1, 1);
        String smaller = Check.stateOf(x);
        Check.due("save() again", 6, x.save());
        x.setSize(3, 2);
        Check.due("restore()", 6, x.restore());
        Check.due("the state after restore()", smaller, Check.stateOf(x));
    }

    private static void numbersOfSave() {
        Sentences.about("Promise 35", "Returns the number of the rule.");
        Check.due("save() of the least rule", 0, new PreimageAnalyzer().save());
        Check.due("save() of the greatest rule", 7625597484986L, Check.numbered(3, 3, 7625597484986L).save());
    }

    private static void numbersOfRestore() {
        Sentences.about("Promise 36", "Returns the number of the rule.");
        PreimageAnalyzer x = new PreimageAnalyzer();
        x.save();
        x.setNumber(255);
        Check.due("restore() of the least rule", 0, x.restore());
        x.setSize(3, 3);
        x.setNumber(7625597484986L);
        x.save();
        x.setSize(2, 3);
        Check.due("restore() of the greatest rule", 7625597484986L, x.restore());
    }

    private static void whatIsSavedStays() {
        Sentences.about("Promise 36", "it stays saved.");
        PreimageAnalyzer x = Check.numbered(2, 4, 54321);
        x.setWord(1, 14, 16383);
        x.save();
        String before = Check.stateOf(x);
        for (int i = 0; i < 3; i++) {
            x.setOutput(0, 0);
            x.setOutput(15, 1);
            x.setWord(1, 2, i);
            x.setSize(3, 2);
            Check.due("restore()", 54321, x.restore());
            Check.due("the state after restore()", before, Check.stateOf(x));
        }
        x.setSize(2, 2);
        x.save();
        Check.due("compose() with what is saved now", 3, x.compose());
        Check.due("restore() behind compose()", 0, x.restore());
        Check.due("size(1)", 2, x.size(1));
    }

    private static void whatRestoreLeaves() {
        Sentences.about("Promise 36", "Restores what was saved;");
        PreimageAnalyzer x = new PreimageAnalyzer();
        Check.write(x, "a+");
        x.save();
        Check.answer(x::compile);
        Check.write(x, "a+c");
        x.restore();
        // The buffer and the error are not saved, so they stay.
        Check.due("append(0)", 3, x.append(0));
        Check.due("error(0)", 2, x.error(0));
        Check.due("error(1)", 2, x.error(1));
        Check.due("compile()", 4, x.compile());
        Check.due("number()", 90, x.number());
        x.setSize(2, 4);
        Check.write(x, "a+d");
        x.restore();
        // The formula is read with the width that is restored.
        Check.fails("compile() of a+d", Check.ARGUMENT, x::compile);
        Check.due("error(0) of a+d", 3, x.error(0));
        Check.due("error(1) of a+d", 2, x.error(1));
    }

    private static void nothingSaved() {
        Sentences.about("Promise 36", "Throws `IllegalStateException` if nothing was saved");
        for (int[] size : Check.SIZES) {
            PreimageAnalyzer x = Check.formed(size[0], size[1], "a");
            x.setWord(0, 14, 3);
            Check.refuses(x, "restore()", Check.STATE, x::restore);
            Check.refuses(x, "restore() again", Check.STATE, x::restore);
            long number = x.save();
            Check.due("restore() behind save()", number, x.restore());
        }
    }
}

import java.util.List;

/**
 * For each sentence of the document that names a boundary case, a test of its own, which says which promise and which
 * sentence it is about; and that no sentence of the document was passed over.
 */
public final class SentencesTest {
    /** FaceTest and ExamplesTest are about these. */
    private static final List<String> SECTIONS_LEFT_OUT = List.of("The public face", "Examples");

    /** The sentences that name no boundary; the other tests are about them. */
    private static final List<String> PLAIN = List.of(
        "An analyzer of one-dimensional cellular automata: local rules given by tables, numbers and "
            + "formulas, de Bruijn graphs, counts and listings of preimages, words without preimage, tests of "
            + "surjectivity and injectivity, inverse rules, composition, equivalent rules, and orbits of "
            + "cyclic words.",
        "what later calls answer is free.",
        "The class is not thread-safe.",
        "Automaton.",
        "A word is a sequence of cells, each of which holds a state;",
        "its length is the number of its cells.",
        "A neighborhood is a word of length w.",
        "The table assigns an output, which is a state, to each neighborhood.",
        "Images.",
        "A preimage of a word u is a word whose image is u;",
        "Graph.",
        "The successors of a set of nodes by a state c are the nodes to which edges with the label c "
            + "lead from nodes of the set.",
        "Surjective and injective.",
        "Inverse.",
        "Registers.",
        "Formulas.",
        "More exactly.",
        "The constructor and the methods follow, a promise each: the signature, then what it does.",
        "Rules.",
        "Sets the number of states and the width.",
        "- `states`: the number of states k",
        "- `width`: the width w",
        "Returns a size of the automaton.",
        "Returns the size.",
        "Sets the output of a neighborhood.",
        "- `index`: the index of the neighborhood",
        "Returns the output of a neighborhood.",
        "Returns the output.",
        "Sets the table by the number of the rule.",
        "- `number`: the number of the rule",
        "Returns the number.",
        "- `packed`: the characters",
        "Sets the table by the formula in the buffer.",
        "Returns the least number.",
        "Returns the new width.",
        "Sets a register to a word.",
        "- `register`: the register",
        "- `index`: the index of the word",
        "Returns the length of the word in a register.",
        "Returns the length.",
        "Returns the index of the word in a register.",
        "Returns a cell of the word in a register.",
        "Returns its state.",
        "Replaces the word in a register by its image or its cyclic image.",
        "- `cyclic`: whether it is the cyclic image",
        "Preimages.",
        "- `cyclic`: whether it is a cyclic preimage",
        "Returns the index of the preimage.",
        "- `first`: the node at the beginning",
        "- `last`: the node at the end",
        "Returns the number of words of a length that have a given number of preimages.",
        "Returns the number of words.",
        "Returns the greatest number of preimages.",
        "Graph and properties.",
        "Returns a part of an edge.",
        "- `node`: the node v",
        "- `state`: the state s",
        "Returns the part.",
        "Returns the number of orphans of a length.",
        "Returns the number of orphans.",
        "Returns its length.",
        "Returns whether the automaton has a property.",
        "Returns whether it has the property.",
        "Returns the number of pairs.",
        "Returns the length or the position of the inverse that counts.",
        "Returns the length or position.",
        "Returns what the inverse that counts assigns to a word of its length.",
        "Returns the state.",
        "Snapshots.",
        "How the state is held inside the object is free, as are the speed of each call, the text of "
            + "toString and the behaviour of equals and hashCode.",
        "Use of one object from several threads at once is not promised to be safe.");

    public static void main(String[] args) throws IllegalAccessException {
        Class<?>[] groups = {DescriptionSentences.class, RefusalSentences.class, FormulaSentences.class,
            ExactSentences.class, RuleSentences.class, RegisterSentences.class, PreimageSentences.class,
            GraphSentences.class};
        for (Class<?> group : groups) {
            Sentences.run(group);
        }
        Sentences.allAreTested(SECTIONS_LEFT_OUT, PLAIN);
        Check.end();
    }
}

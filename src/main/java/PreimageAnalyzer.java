import java.util.Arrays;
import java.util.NoSuchElementException;

/**
 * An analyzer of one-dimensional cellular automata with two or three states: tables of rules, preimages of words,
 * orphans, surjectivity, injectivity, inverses and orbits of cyclic words.
 *
 * <p>Everything rests on one fact: the neighborhood with the index node * states + state is the edge that leaves
 * the node by the state, so the table of outputs is at the same time the list of the edges' labels. All rows that
 * a call needs are made once, with the object, for the largest automaton.
 */
public final class PreimageAnalyzer {
    private static final int REGISTERS = 4;
    private static final int LONGEST_WORD = 14;
    private static final int LONGEST_ORBIT_WORD = 8;
    private static final int LONGEST_COUNTED_WORD = 7;
    private static final int LONGEST_FIXED_WORD = 8;
    private static final int LONGEST_COUNTED_ORPHAN = 12;

    private final Rule rule;
    private final Rule savedRule;
    private final Registers registers;
    private final Registers savedRegisters;
    private boolean saved;
    private final Formula formula;
    private final Images images;
    private final Paths paths;
    private final SubsetAutomaton automaton;
    private final NodePairs pairs;
    private final InverseSearch search;
    /** A table in the making, so that a call that fails leaves the rule alone. */
    private final int[] draft;
    private final int[] mirrored;

    public PreimageAnalyzer() {
        rule = new Rule();
        savedRule = new Rule();
        registers = new Registers();
        savedRegisters = new Registers();
        saved = false;
        formula = new Formula();
        images = new Images();
        paths = new Paths();
        automaton = new SubsetAutomaton();
        pairs = new NodePairs();
        search = new InverseSearch();
        draft = new int[Rule.MOST_NEIGHBORHOODS];
        mirrored = new int[Rule.MOST_NEIGHBORHOODS];
    }

    // Rules.

    public int setSize(int states, int width) throws IllegalArgumentException {
        if (!Rule.exists(states, width)) {
            throw new IllegalArgumentException("no automata of this size");
        }
        rule.resize(states, width);
        registers.empty();
        return rule.neighborhoods;
    }

    public int size(int what) throws IndexOutOfBoundsException {
        switch (what) {
            case 0:
                return rule.states;
            case 1:
                return rule.width;
            case 2:
                return rule.neighborhoods;
            case 3:
                return rule.nodes;
            default:
                throw new IndexOutOfBoundsException("no such size");
        }
    }

    public int setOutput(int index, int output) throws IndexOutOfBoundsException, IllegalArgumentException {
        needNeighborhood(index);
        if (output < 0 || output >= rule.states) {
            throw new IllegalArgumentException("the output is no state");
        }
        int previous = rule.table[index];
        rule.table[index] = output;
        return previous;
    }

    public int output(int index) throws IndexOutOfBoundsException {
        needNeighborhood(index);
        return rule.table[index];
    }

    public int setNumber(long number) throws IllegalArgumentException {
        if (number < 0 || number >= rule.countOfRules()) {
            throw new IllegalArgumentException("no number of a rule");
        }
        rule.spreadNumber(number, draft);
        return rule.takeTable(draft);
    }

    public long number() {
        return rule.numberOf(rule.table);
    }

    public int append(int packed) throws IllegalArgumentException, IllegalStateException {
        int added = 0;
        for (int shift = 24; shift >= 0; shift -= 8) {
            int sign = byteAt(packed, shift);
            if (sign != 0 && (sign < 33 || sign > 126)) {
                throw new IllegalArgumentException("a byte is no visible character");
            }
            added += sign == 0 ? 0 : 1;
        }
        if (formula.length + added > Formula.CAPACITY) {
            throw new IllegalStateException("the buffer is full");
        }
        for (int shift = 24; shift >= 0; shift -= 8) {
            int sign = byteAt(packed, shift);
            if (sign != 0) {
                formula.add(sign);
            }
        }
        return formula.length;
    }

    public int compile() throws IllegalArgumentException, ArithmeticException {
        formula.read(rule.width);
        if (formula.errorKind == Formula.NO_ERROR) {
            formula.evaluate(rule, draft);
        }
        formula.length = 0;
        if (formula.errorKind == Formula.NO_ERROR) {
            return rule.takeTable(draft);
        }
        if (formula.errorKind == Formula.QUOTIENT_BY_ZERO || formula.errorKind == Formula.REMAINDER_BY_ZERO) {
            throw new ArithmeticException("the formula divides by 0");
        }
        throw new IllegalArgumentException("the formula is malformed");
    }

    public int error(int what) throws IndexOutOfBoundsException {
        needBit(what);
        return what == 0 ? formula.errorKind : formula.errorPlace;
    }

    public int mirror() {
        rule.mirrorTable(rule.table, draft);
        return rule.takeTable(draft);
    }

    public int complement() {
        rule.complementTable(rule.table, draft);
        return rule.takeTable(draft);
    }

    public long leastNumber() {
        long least = rule.numberOf(rule.table);
        rule.complementTable(rule.table, draft);
        least = Math.min(least, rule.numberOf(draft));
        rule.mirrorTable(rule.table, mirrored);
        least = Math.min(least, rule.numberOf(mirrored));
        rule.complementTable(mirrored, draft);
        return Math.min(least, rule.numberOf(draft));
    }

    public int compose() throws IllegalStateException {
        if (!saved || savedRule.states != rule.states) {
            throw new IllegalStateException("no saved rule with as many states");
        }
        int width = rule.width + savedRule.width - 1;
        if (!Rule.exists(rule.states, width)) {
            throw new IllegalStateException("no automata of the new width");
        }
        int neighborhoods = rule.countOfWords(width);
        for (int i = 0; i < neighborhoods; i++) {
            draft[i] = images.imageOf(rule, rule.width, images.imageOf(savedRule, width, i));
        }
        rule.resize(rule.states, width);
        rule.takeTable(draft);
        return width;
    }

    // Registers.

    public int setWord(int register, int length, int index)
            throws IndexOutOfBoundsException, IllegalArgumentException {
        needRegister(register);
        if (length < 0 || length > LONGEST_WORD) {
            throw new IllegalArgumentException("the length is out of range");
        }
        if (index < 0 || index >= rule.countOfWords(length)) {
            throw new IllegalArgumentException("no word of this length with this index");
        }
        int previous = registers.lengths[register];
        registers.put(register, length, index);
        return previous;
    }

    public int wordLength(int register) throws IndexOutOfBoundsException {
        needRegister(register);
        return registers.lengths[register];
    }

    public int wordIndex(int register) throws IndexOutOfBoundsException {
        needRegister(register);
        return registers.indices[register];
    }

    public int cell(int register, int cell) throws IndexOutOfBoundsException {
        needRegister(register);
        int length = registers.lengths[register];
        if (cell < 0 || cell >= length) {
            throw new IndexOutOfBoundsException("no such cell");
        }
        return rule.cellOf(registers.indices[register], length, cell);
    }

    public int apply(int register, boolean cyclic) throws IndexOutOfBoundsException, IllegalStateException {
        needRegister(register);
        int length = registers.lengths[register];
        if (length < (cyclic ? 1 : rule.width)) {
            throw new IllegalStateException("the word has no image");
        }
        int index = registers.indices[register];
        if (cyclic) {
            registers.put(register, length, images.cyclicImageOf(rule, length, index));
        } else {
            registers.put(register, length - rule.width + 1, images.imageOf(rule, length, index));
        }
        return registers.lengths[register];
    }

    public int orbit(int register, int what) throws IndexOutOfBoundsException, IllegalStateException {
        needRegister(register);
        needBit(what);
        int length = registers.lengths[register];
        if (length == 0 || length > LONGEST_ORBIT_WORD) {
            throw new IllegalStateException("the word is empty or too long");
        }
        images.follow(rule, length, registers.indices[register]);
        return what == 0 ? images.stepsBefore : images.stepsBetween;
    }

    // Preimages.

    public int preimageCount(int register, boolean cyclic) throws IndexOutOfBoundsException {
        needRegister(register);
        takeLabels(register);
        return cyclic ? paths.countClosed(rule) : paths.countAll(rule);
    }

    public int preimage(int register, boolean cyclic, int number, int target)
            throws IndexOutOfBoundsException, IllegalStateException, NoSuchElementException {
        needRegister(register);
        needRegister(target);
        int length = registers.lengths[register] + (cyclic ? 0 : rule.width - 1);
        if (length > LONGEST_WORD) {
            throw new IllegalStateException("the preimages are too long");
        }
        takeLabels(register);
        int index = cyclic ? paths.closedWord(rule, number) : paths.openWord(rule, number);
        if (index < 0) {
            throw new NoSuchElementException("no such preimage");
        }
        registers.put(target, length, index);
        return index;
    }

    public int preimagesBetween(int register, int first, int last) throws IndexOutOfBoundsException {
        needRegister(register);
        needNode(first);
        needNode(last);
        takeLabels(register);
        return paths.countBetween(rule, first, last);
    }

    public int wordsWith(int length, int count) throws IllegalArgumentException {
        needLength(length, 0, LONGEST_COUNTED_WORD);
        paths.surveyWords(rule, length, count);
        return paths.wordsFound;
    }

    public int mostPreimages(int length) throws IllegalArgumentException {
        needLength(length, 0, LONGEST_COUNTED_WORD);
        paths.surveyWords(rule, length, 0);
        return paths.mostFound;
    }

    public int fixedWords(int length) throws IllegalArgumentException {
        needLength(length, 1, LONGEST_FIXED_WORD);
        return paths.countFixed(rule, length);
    }

    // Graph and properties.

    public int edge(int node, int state, int what) throws IndexOutOfBoundsException {
        needNode(node);
        if (state < 0 || state >= rule.states) {
            throw new IndexOutOfBoundsException("no such state");
        }
        needBit(what);
        int neighborhood = node * rule.states + state;
        return what == 0 ? rule.targets[neighborhood] : rule.table[neighborhood];
    }

    public int subsets() {
        automaton.explore(rule);
        return automaton.found;
    }

    public int orphans(int length) throws IllegalArgumentException {
        needLength(length, 0, LONGEST_COUNTED_ORPHAN);
        automaton.explore(rule);
        return automaton.countOrphans(rule, length);
    }

    public int shortestOrphan(int register)
            throws IndexOutOfBoundsException, NoSuchElementException, IllegalStateException {
        needRegister(register);
        automaton.explore(rule);
        if (automaton.isWithoutOrphans()) {
            throw new NoSuchElementException("there are no orphans");
        }
        int length = automaton.orphanLength();
        if (length > LONGEST_WORD) {
            throw new IllegalStateException("the shortest orphan is too long");
        }
        registers.put(register, length, automaton.orphanIndex());
        return length;
    }

    public boolean has(int what) throws IndexOutOfBoundsException {
        switch (what) {
            case 0:
                automaton.explore(rule);
                return automaton.isWithoutOrphans();
            case 1:
                return pairs.countOnCycles(rule) == 0;
            case 2:
                return rule.isLeftPermutive();
            case 3:
                return rule.isRightPermutive();
            case 4:
                return rule.isBalanced();
            case 5:
                rule.mirrorTable(rule.table, draft);
                return rule.numberOf(draft) == rule.numberOf(rule.table);
            case 6:
                rule.complementTable(rule.table, draft);
                return rule.numberOf(draft) == rule.numberOf(rule.table);
            default:
                throw new IndexOutOfBoundsException("no such property");
        }
    }

    public int cyclicPairs() {
        return pairs.countOnCycles(rule);
    }

    public int inverse(int what) throws IndexOutOfBoundsException, NoSuchElementException {
        needBit(what);
        needInverse();
        return what == 0 ? search.length : search.position;
    }

    public int inverseOutput(int index) throws NoSuchElementException, IndexOutOfBoundsException {
        needInverse();
        if (index < 0 || index >= rule.countOfWords(search.length)) {
            throw new IndexOutOfBoundsException("no such word");
        }
        return search.stateFor(rule, index);
    }

    // Snapshots.

    public long save() {
        savedRule.copyFrom(rule);
        savedRegisters.copyFrom(registers);
        saved = true;
        return rule.numberOf(rule.table);
    }

    public long restore() throws IllegalStateException {
        if (!saved) {
            throw new IllegalStateException("nothing was saved");
        }
        rule.copyFrom(savedRule);
        registers.copyFrom(savedRegisters);
        return rule.numberOf(rule.table);
    }

    // Tests of arguments, and what several calls need.

    private static void needRegister(int register) {
        if (register < 0 || register >= REGISTERS) {
            throw new IndexOutOfBoundsException("no such register");
        }
    }

    private static void needBit(int what) {
        if (what != 0 && what != 1) {
            throw new IndexOutOfBoundsException("neither 0 nor 1");
        }
    }

    private static void needLength(int length, int least, int most) {
        if (length < least || length > most) {
            throw new IllegalArgumentException("the length is out of range");
        }
    }

    private void needNeighborhood(int index) {
        if (index < 0 || index >= rule.neighborhoods) {
            throw new IndexOutOfBoundsException("no such neighborhood");
        }
    }

    private void needNode(int node) {
        if (node < 0 || node >= rule.nodes) {
            throw new IndexOutOfBoundsException("no such node");
        }
    }

    private void needInverse() {
        search.run(rule);
        if (search.length == 0) {
            throw new NoSuchElementException("there is no inverse");
        }
    }

    private static int byteAt(int packed, int shift) {
        return packed >>> shift & 255;
    }

    private void takeLabels(int register) {
        paths.takeLabels(rule, registers.lengths[register], registers.indices[register]);
    }

    /** A rule with its sizes, and the graph's edges that follow from the sizes alone. */
    private static final class Rule {
        static final int MOST_STATES = 3;
        static final int MOST_WIDTH = 4;
        static final int MOST_NODES = 9;
        static final int MOST_NEIGHBORHOODS = 27;

        int states;
        int width;
        int nodes;
        int neighborhoods;
        final int[] table;
        /** For each neighborhood the node of its cells but the first. */
        final int[] targets;
        final int[] firstCells;
        private final int[] reversal;
        private final int[] tally;

        Rule() {
            table = new int[MOST_NEIGHBORHOODS];
            targets = new int[MOST_NEIGHBORHOODS];
            firstCells = new int[MOST_NEIGHBORHOODS];
            reversal = new int[MOST_WIDTH];
            tally = new int[MOST_STATES];
            resize(2, 3);
        }

        static boolean exists(int states, int width) {
            return width >= 2 && (states == 2 && width <= 4 || states == 3 && width <= 3);
        }

        void resize(int newStates, int newWidth) {
            states = newStates;
            width = newWidth;
            nodes = countOfWords(newWidth - 1);
            neighborhoods = nodes * newStates;
            int target = 0;
            int first = 0;
            for (int i = 0; i < neighborhoods; i++) {
                table[i] = 0;
                targets[i] = target;
                firstCells[i] = first;
                target++;
                if (target == nodes) {
                    target = 0;
                    first++;
                }
            }
        }

        void copyFrom(Rule other) {
            resize(other.states, other.width);
            System.arraycopy(other.table, 0, table, 0, MOST_NEIGHBORHOODS);
        }

        /** Answers how many outputs change. */
        int takeTable(int[] outputs) {
            int changes = 0;
            for (int i = 0; i < neighborhoods; i++) {
                changes += table[i] == outputs[i] ? 0 : 1;
                table[i] = outputs[i];
            }
            return changes;
        }

        int countOfWords(int length) {
            int count = 1;
            for (int i = 0; i < length; i++) {
                count *= states;
            }
            return count;
        }

        long countOfRules() {
            long count = 1;
            for (int i = 0; i < neighborhoods; i++) {
                count *= states;
            }
            return count;
        }

        long numberOf(int[] outputs) {
            long number = 0;
            for (int i = neighborhoods - 1; i >= 0; i--) {
                number = number * states + outputs[i];
            }
            return number;
        }

        void spreadNumber(long number, int[] outputs) {
            long rest = number;
            for (int i = 0; i < neighborhoods; i++) {
                // The divisors are written out, so that none can be 0.
                outputs[i] = (int) (states == 2 ? rest % 2 : rest % 3);
                rest = states == 2 ? rest / 2 : rest / 3;
            }
        }

        int lastCell(int word) {
            return states == 2 ? word % 2 : word % 3;
        }

        int withoutLastCell(int word) {
            return states == 2 ? word / 2 : word / 3;
        }

        int cellOf(int word, int length, int cell) {
            int rest = word;
            for (int i = length - 1; i > cell; i--) {
                rest = withoutLastCell(rest);
            }
            return lastCell(rest);
        }

        void spreadWord(int word, int length, int[] cells) {
            int rest = word;
            for (int i = length - 1; i >= 0; i--) {
                cells[i] = lastCell(rest);
                rest = withoutLastCell(rest);
            }
        }

        void mirrorTable(int[] outputs, int[] result) {
            for (int i = 0; i < neighborhoods; i++) {
                spreadWord(i, width, reversal);
                int reversed = 0;
                for (int j = width - 1; j >= 0; j--) {
                    reversed = reversed * states + reversal[j];
                }
                result[i] = outputs[reversed];
            }
        }

        void complementTable(int[] outputs, int[] result) {
            for (int i = 0; i < neighborhoods; i++) {
                result[i] = states - 1 - outputs[neighborhoods - 1 - i];
            }
        }

        boolean isLeftPermutive() {
            for (int i = 0; i < nodes; i++) {
                if (!areDifferent(i, nodes)) {
                    return false;
                }
            }
            return true;
        }

        boolean isRightPermutive() {
            for (int i = 0; i < nodes; i++) {
                if (!areDifferent(i * states, 1)) {
                    return false;
                }
            }
            return true;
        }

        /** Whether the neighborhoods first, first + step and so on, one for each state, have different outputs. */
        private boolean areDifferent(int first, int step) {
            int seen = 0;
            for (int state = 0; state < states; state++) {
                seen |= 1 << table[first + state * step];
            }
            return seen == (1 << states) - 1;
        }

        boolean isBalanced() {
            Arrays.fill(tally, 0);
            for (int i = 0; i < neighborhoods; i++) {
                tally[table[i]]++;
            }
            for (int state = 0; state < states; state++) {
                if (tally[state] != nodes) {
                    return false;
                }
            }
            return true;
        }
    }

    /** The words in the registers, by length and index. */
    private static final class Registers {
        final int[] lengths;
        final int[] indices;

        Registers() {
            lengths = new int[REGISTERS];
            indices = new int[REGISTERS];
        }

        void empty() {
            Arrays.fill(lengths, 0);
            Arrays.fill(indices, 0);
        }

        void put(int register, int length, int index) {
            lengths[register] = length;
            indices[register] = index;
        }

        void copyFrom(Registers other) {
            System.arraycopy(other.lengths, 0, lengths, 0, REGISTERS);
            System.arraycopy(other.indices, 0, indices, 0, REGISTERS);
        }
    }

    /**
     * The buffer and the formula in it. It is read sign by sign into postfix code, which does the divisions in the
     * order that the document asks for and needs no recursion.
     */
    private static final class Formula {
        static final int CAPACITY = 40;

        static final int NO_ERROR = 0;
        static final int WRONG_SIGN = 1;
        static final int EARLY_END = 2;
        static final int CELL_BEYOND_WIDTH = 3;
        static final int QUOTIENT_BY_ZERO = 4;
        static final int REMAINDER_BY_ZERO = 5;

        // What the next sign must be.
        private static final int OPERAND = 0;
        private static final int OPERATOR = 1;
        private static final int I_OR_A = 2;
        private static final int N_OF_MIN = 3;
        private static final int X_OF_MAX = 4;
        private static final int BRACKET_OF_CALL = 5;

        // Operations of the code that are no signs of the text; those that wait for their comma stand apart.
        private static final int MIN = 'n';
        private static final int MAX = 'x';
        private static final int MIN_BEFORE_COMMA = 'N';
        private static final int MAX_BEFORE_COMMA = 'X';

        int length;
        int errorKind;
        int errorPlace;
        private final int[] text;
        private final int[] code;
        private int codeLength;
        /** Operators and open brackets that are not in the code yet. */
        private final int[] waiting;
        private int waitingCount;
        private final int[] values;
        private final int[] cells;

        Formula() {
            length = 0;
            errorKind = NO_ERROR;
            errorPlace = -1;
            text = new int[CAPACITY];
            code = new int[CAPACITY];
            waiting = new int[CAPACITY];
            values = new int[CAPACITY];
            cells = new int[Rule.MOST_WIDTH];
        }

        void add(int sign) {
            text[length] = sign;
            length++;
        }

        void read(int width) {
            errorKind = NO_ERROR;
            errorPlace = -1;
            codeLength = 0;
            waitingCount = 0;
            int due = OPERAND;
            for (int i = 0; i < length; i++) {
                due = readSign(due, text[i], width);
                if (errorKind != NO_ERROR) {
                    errorPlace = i;
                    return;
                }
            }
            moveOperators(1);
            if (due != OPERATOR || waitingCount != 0) {
                errorKind = EARLY_END;
                errorPlace = length;
            }
        }

        /** Answers what is due behind the sign. */
        private int readSign(int due, int sign, int width) {
            switch (due) {
                case OPERAND:
                    return readOperand(sign, width);
                case OPERATOR:
                    return readOperator(sign);
                case I_OR_A:
                    return sign == 'i' ? N_OF_MIN : sign == 'a' ? X_OF_MAX : refuse();
                case N_OF_MIN:
                    return sign == 'n' ? hold(MIN_BEFORE_COMMA, BRACKET_OF_CALL) : refuse();
                case X_OF_MAX:
                    return sign == 'x' ? hold(MAX_BEFORE_COMMA, BRACKET_OF_CALL) : refuse();
                default:
                    return sign == '(' ? OPERAND : refuse();
            }
        }

        private int readOperand(int sign, int width) {
            if (sign >= 'a' && sign <= 'd' && sign - 'a' >= width) {
                errorKind = CELL_BEYOND_WIDTH;
                return OPERAND;
            }
            if (sign >= '0' && sign <= '9' || sign >= 'a' && sign <= 'd') {
                emit(sign);
                return endFactor();
            }
            if (sign == '!' || sign == '(') {
                return hold(sign, OPERAND);
            }
            return sign == 'm' ? I_OR_A : refuse();
        }

        private int readOperator(int sign) {
            int rank = rankOf(sign);
            if (rank > 0) {
                moveOperators(Math.max(rank, 2));
                // A comparison that still waits belongs to the same formula.
                return rank == 1 && rankOf(lastWaiting()) == 1 ? refuse() : hold(sign, OPERAND);
            }
            moveOperators(1);
            int opener = lastWaiting();
            if (sign == ',' && (opener == MIN_BEFORE_COMMA || opener == MAX_BEFORE_COMMA)) {
                waitingCount--;
                return hold(opener == MIN_BEFORE_COMMA ? MIN : MAX, OPERAND);
            }
            if (sign == ')' && (opener == '(' || opener == MIN || opener == MAX)) {
                waitingCount--;
                if (opener != '(') {
                    emit(opener);
                }
                return endFactor();
            }
            return refuse();
        }

        private int refuse() {
            errorKind = WRONG_SIGN;
            return OPERAND;
        }

        private int hold(int operation, int due) {
            waiting[waitingCount] = operation;
            waitingCount++;
            return due;
        }

        private int lastWaiting() {
            return waitingCount > 0 ? waiting[waitingCount - 1] : 0;
        }

        private void emit(int operation) {
            code[codeLength] = operation;
            codeLength++;
        }

        private int endFactor() {
            while (waitingCount > 0 && lastWaiting() == '!') {
                waitingCount--;
                emit('!');
            }
            return OPERATOR;
        }

        private void moveOperators(int leastRank) {
            while (waitingCount > 0 && rankOf(lastWaiting()) >= leastRank) {
                emit(lastWaiting());
                waitingCount--;
            }
        }

        private static int rankOf(int sign) {
            switch (sign) {
                case '=':
                case '<':
                    return 1;
                case '+':
                case '-':
                    return 2;
                case '*':
                case '/':
                case '%':
                    return 3;
                default:
                    return 0;
            }
        }

        void evaluate(Rule rule, int[] outputs) {
            for (int i = 0; i < rule.neighborhoods; i++) {
                rule.spreadWord(i, rule.width, cells);
                int value = valueForCells();
                if (errorKind != NO_ERROR) {
                    errorPlace = i;
                    return;
                }
                outputs[i] = rule.states == 2 ? Math.floorMod(value, 2) : Math.floorMod(value, 3);
            }
        }

        private int valueForCells() {
            int height = 0;
            for (int i = 0; i < codeLength; i++) {
                int operation = code[i];
                if (operation >= '0' && operation <= '9') {
                    values[height] = operation - '0';
                    height++;
                } else if (operation >= 'a' && operation <= 'd') {
                    values[height] = cells[operation - 'a'];
                    height++;
                } else if (operation == '!') {
                    values[height - 1] = values[height - 1] == 0 ? 1 : 0;
                } else {
                    height--;
                    values[height - 1] = combine(operation, values[height - 1], values[height]);
                    if (errorKind != NO_ERROR) {
                        return 0;
                    }
                }
            }
            return values[0];
        }

        private int combine(int operation, int left, int right) {
            switch (operation) {
                case '+':
                    return left + right;
                case '-':
                    return left - right;
                case '*':
                    return left * right;
                case '/':
                    if (right == 0) {
                        errorKind = QUOTIENT_BY_ZERO;
                        return 0;
                    }
                    return left / right;
                case '%':
                    if (right == 0) {
                        errorKind = REMAINDER_BY_ZERO;
                        return 0;
                    }
                    return left % right;
                case '=':
                    return left == right ? 1 : 0;
                case '<':
                    return left < right ? 1 : 0;
                case MIN:
                    return Math.min(left, right);
                default:
                    return Math.max(left, right);
            }
        }
    }

    /** Images of words, and the way of a word under cyclic images. */
    private static final class Images {
        private static final int MOST_ORBIT_WORDS = 6561;

        int stepsBefore;
        int stepsBetween;
        private final int[] cells;
        /** For each word the step at which the orbit met it, or -1. */
        private final int[] meetings;

        Images() {
            cells = new int[LONGEST_WORD + Rule.MOST_WIDTH - 1];
            meetings = new int[MOST_ORBIT_WORDS];
        }

        /** The index of the image of a word that has one. */
        int imageOf(Rule rule, int length, int word) {
            rule.spreadWord(word, length, cells);
            return readLabels(rule, length - rule.width + 1);
        }

        int cyclicImageOf(Rule rule, int length, int word) {
            rule.spreadWord(word, length, cells);
            // Cells that were put behind the word serve again, so words shorter than the width wrap more than once.
            for (int i = 0; i < rule.width - 1; i++) {
                cells[length + i] = cells[i];
            }
            return readLabels(rule, length);
        }

        private int readLabels(Rule rule, int count) {
            int node = 0;
            for (int i = 0; i < rule.width - 1; i++) {
                node = node * rule.states + cells[i];
            }
            int image = 0;
            for (int i = 0; i < count; i++) {
                int neighborhood = node * rule.states + cells[i + rule.width - 1];
                image = image * rule.states + rule.table[neighborhood];
                node = rule.targets[neighborhood];
            }
            return image;
        }

        void follow(Rule rule, int length, int start) {
            int words = rule.countOfWords(length);
            Arrays.fill(meetings, 0, words, -1);
            int word = start;
            // Among words + 1 words, one occurs twice.
            for (int step = 0; step <= words; step++) {
                if (meetings[word] >= 0) {
                    stepsBefore = meetings[word];
                    stepsBetween = step - meetings[word];
                    return;
                }
                meetings[word] = step;
                word = cyclicImageOf(rule, length, word);
            }
        }
    }

    /**
     * Preimages as paths through the graph: a preimage of a word is a path whose labels are the word, a cyclic
     * preimage is such a path that ends where it began, also if the word is shorter than a node.
     */
    private static final class Paths {
        int wordsFound;
        int mostFound;
        private int length;
        private final int[] labels;
        /** Numbers of paths, a row for each place between two labels, an entry for each node. */
        private final int[][] ways;

        Paths() {
            labels = new int[LONGEST_WORD];
            ways = new int[LONGEST_WORD + 1][Rule.MOST_NODES];
        }

        void takeLabels(Rule rule, int wordLength, int word) {
            length = wordLength;
            rule.spreadWord(word, wordLength, labels);
        }

        int countAll(Rule rule) {
            countToAnywhere(rule);
            return sumOf(rule, ways[0]);
        }

        int countBetween(Rule rule, int first, int last) {
            countTo(rule, last);
            return ways[0][first];
        }

        int countClosed(Rule rule) {
            int count = 0;
            if (length > 0) {
                for (int node = 0; node < rule.nodes; node++) {
                    count += countBetween(rule, node, node);
                }
            }
            return count;
        }

        /** The index of the preimage with this number, or -1. */
        int openWord(Rule rule, int number) {
            if (number < 0) {
                return -1;
            }
            countToAnywhere(rule);
            int rest = number;
            for (int node = 0; node < rule.nodes; node++) {
                if (rest < ways[0][node]) {
                    return walk(rule, node, rest);
                }
                rest -= ways[0][node];
            }
            return -1;
        }

        /** The index of the cyclic preimage with this number, or -1. */
        int closedWord(Rule rule, int number) {
            if (number < 0 || length == 0) {
                return -1;
            }
            int rest = number;
            for (int node = 0; node < rule.nodes; node++) {
                int count = countBetween(rule, node, node);
                if (rest < count) {
                    return withoutEnd(rule, walk(rule, node, rest));
                }
                rest -= count;
            }
            return -1;
        }

        /** A closed path repeats the cells of its first node at its end. */
        private static int withoutEnd(Rule rule, int word) {
            int rest = word;
            for (int i = 0; i < rule.width - 1; i++) {
                rest = rule.withoutLastCell(rest);
            }
            return rest;
        }

        /** The index of the word along the path with this number among the counted ones that leave the node. */
        private int walk(Rule rule, int start, int number) {
            int word = start;
            int node = start;
            int rest = number;
            for (int i = 0; i < length; i++) {
                int state = 0;
                int count = waysBy(rule, node * rule.states, i);
                while (rest >= count && state < rule.states - 1) {
                    rest -= count;
                    state++;
                    count = waysBy(rule, node * rule.states + state, i);
                }
                word = word * rule.states + state;
                node = rule.targets[node * rule.states + state];
            }
            return word;
        }

        private void countTo(Rule rule, int last) {
            Arrays.fill(ways[length], 0);
            ways[length][last] = 1;
            countBackwards(rule);
        }

        private void countToAnywhere(Rule rule) {
            Arrays.fill(ways[length], 1);
            countBackwards(rule);
        }

        private void countBackwards(Rule rule) {
            for (int i = length - 1; i >= 0; i--) {
                for (int node = 0; node < rule.nodes; node++) {
                    int count = 0;
                    for (int state = 0; state < rule.states; state++) {
                        count += waysBy(rule, node * rule.states + state, i);
                    }
                    ways[i][node] = count;
                }
            }
        }

        /** The number of counted paths whose edge at a place is that of the neighborhood. */
        private int waysBy(Rule rule, int neighborhood, int place) {
            return rule.table[neighborhood] == labels[place] ? ways[place + 1][rule.targets[neighborhood]] : 0;
        }

        private static int sumOf(Rule rule, int[] row) {
            int sum = 0;
            for (int node = 0; node < rule.nodes; node++) {
                sum += row[node];
            }
            return sum;
        }

        /** Finds how many words of a length have as many preimages as wanted, and the most that one has. */
        void surveyWords(Rule rule, int wordLength, int wanted) {
            wordsFound = 0;
            mostFound = 0;
            Arrays.fill(labels, 0);
            Arrays.fill(ways[0], 1);
            int words = rule.countOfWords(wordLength);
            int firstChanged = 0;
            for (int i = 0; i < words; i++) {
                // Rows before the first changed label still hold for the next word.
                for (int j = firstChanged; j < wordLength; j++) {
                    stepForward(rule, j);
                }
                int count = sumOf(rule, ways[wordLength]);
                wordsFound += count == wanted ? 1 : 0;
                mostFound = Math.max(mostFound, count);
                firstChanged = moveToNextWord(rule, wordLength);
            }
        }

        private void stepForward(Rule rule, int place) {
            int[] from = ways[place];
            int[] to = ways[place + 1];
            Arrays.fill(to, 0);
            for (int node = 0; node < rule.nodes; node++) {
                if (from[node] != 0) {
                    for (int state = 0; state < rule.states; state++) {
                        int neighborhood = node * rule.states + state;
                        if (rule.table[neighborhood] == labels[place]) {
                            to[rule.targets[neighborhood]] += from[node];
                        }
                    }
                }
            }
        }

        /** Answers the first place at which the labels change, 0 behind the last word. */
        private int moveToNextWord(Rule rule, int wordLength) {
            for (int i = wordLength - 1; i >= 0; i--) {
                if (labels[i] < rule.states - 1) {
                    labels[i]++;
                    return i;
                }
                labels[i] = 0;
            }
            return 0;
        }

        int countFixed(Rule rule, int wordLength) {
            int count = 0;
            for (int node = 0; node < rule.nodes; node++) {
                Arrays.fill(ways[0], 0);
                ways[0][node] = 1;
                for (int i = 0; i < wordLength; i++) {
                    stepAlongFixed(rule, ways[i], ways[i + 1]);
                }
                count += ways[wordLength][node];
            }
            return count;
        }

        /** The paths of words that are their own images have edges whose label is the first cell. */
        private static void stepAlongFixed(Rule rule, int[] from, int[] to) {
            Arrays.fill(to, 0);
            for (int node = 0; node < rule.nodes; node++) {
                for (int state = 0; state < rule.states; state++) {
                    int neighborhood = node * rule.states + state;
                    if (rule.table[neighborhood] == rule.firstCells[neighborhood]) {
                        to[rule.targets[neighborhood]] += from[node];
                    }
                }
            }
        }
    }

    /** The sets of nodes that can be reached from the set of all nodes; a set is an int with a bit for each node. */
    private static final class SubsetAutomaton {
        private static final int MOST_SETS = 512;

        int found;
        /** The sets in the order in which they are found: by the first of their shortest words. */
        private final int[] sets;
        /** For each set its place in that order, or -1. */
        private final int[] places;
        private final int[] depths;
        /** The index of the word that leads to each set; beyond the longest words it may overflow unused. */
        private final int[] words;
        /** For each place and each state the place of the successors. */
        private final int[] next;
        /** For each node and each state the successors of this node alone. */
        private final int[] single;
        private final int[] counts;
        private final int[] newCounts;

        SubsetAutomaton() {
            found = 0;
            sets = new int[MOST_SETS];
            places = new int[MOST_SETS];
            depths = new int[MOST_SETS];
            words = new int[MOST_SETS];
            next = new int[MOST_SETS * Rule.MOST_STATES];
            single = new int[Rule.MOST_NEIGHBORHOODS];
            counts = new int[MOST_SETS];
            newCounts = new int[MOST_SETS];
        }

        void explore(Rule rule) {
            readSingle(rule);
            Arrays.fill(places, -1);
            found = 0;
            placeOf((1 << rule.nodes) - 1, 0, 0);
            for (int i = 0; i < found && i < MOST_SETS; i++) {
                for (int state = 0; state < rule.states; state++) {
                    int set = successors(rule, sets[i], state);
                    next[i * rule.states + state] = placeOf(set, depths[i] + 1, words[i] * rule.states + state);
                }
            }
        }

        private void readSingle(Rule rule) {
            Arrays.fill(single, 0);
            for (int node = 0; node < rule.nodes; node++) {
                for (int state = 0; state < rule.states; state++) {
                    int neighborhood = node * rule.states + state;
                    single[node * rule.states + rule.table[neighborhood]] |= 1 << rule.targets[neighborhood];
                }
            }
        }

        private int successors(Rule rule, int set, int state) {
            int result = 0;
            for (int node = 0; node < rule.nodes; node++) {
                if ((set >>> node & 1) != 0) {
                    result |= single[node * rule.states + state];
                }
            }
            return result;
        }

        /** The place of a set, which takes the next place if it is new. */
        private int placeOf(int set, int depth, int word) {
            if (places[set] < 0) {
                places[set] = found;
                sets[found] = set;
                depths[found] = depth;
                words[found] = word;
                found++;
            }
            return places[set];
        }

        boolean isWithoutOrphans() {
            return places[0] < 0;
        }

        int orphanLength() {
            return places[0] < 0 ? 0 : depths[places[0]];
        }

        int orphanIndex() {
            return places[0] < 0 ? 0 : words[places[0]];
        }

        int countOrphans(Rule rule, int length) {
            if (isWithoutOrphans()) {
                return 0;
            }
            Arrays.fill(counts, 0);
            counts[0] = 1;
            for (int i = 0; i < length; i++) {
                countNext(rule);
            }
            return counts[places[0]];
        }

        private void countNext(Rule rule) {
            Arrays.fill(newCounts, 0, found, 0);
            for (int i = 0; i < found; i++) {
                if (counts[i] != 0) {
                    for (int state = 0; state < rule.states; state++) {
                        newCounts[next[i * rule.states + state]] += counts[i];
                    }
                }
            }
            System.arraycopy(newCounts, 0, counts, 0, found);
        }
    }

    /**
     * Pairs of nodes that are joined by equal labels. The order within a pair does not matter for cycles: a way
     * from a pair to its reverse, followed twice with the sides changed, comes back. So unordered pairs are enough,
     * and a long has a bit for each.
     */
    private static final class NodePairs {
        private static final int MOST_PAIRS = 45;

        /** For each pair the pairs that can be reached from it in one or more steps. */
        private final long[] reachable;

        NodePairs() {
            reachable = new long[MOST_PAIRS];
        }

        /** The number of ordered pairs of different nodes on cycles. */
        int countOnCycles(Rule rule) {
            readSteps(rule);
            int pairCount = placeOf(rule.nodes - 1, rule.nodes - 1) + 1;
            for (int middle = 0; middle < pairCount; middle++) {
                for (int i = 0; i < pairCount; i++) {
                    if ((reachable[i] >>> middle & 1) != 0) {
                        reachable[i] |= reachable[middle];
                    }
                }
            }
            int count = 0;
            for (int p = 0; p < rule.nodes; p++) {
                for (int q = 0; q < p; q++) {
                    int place = placeOf(p, q);
                    count += (reachable[place] >>> place & 1) != 0 ? 2 : 0;
                }
            }
            return count;
        }

        private static int placeOf(int p, int q) {
            int high = Math.max(p, q);
            return high * (high + 1) / 2 + Math.min(p, q);
        }

        private void readSteps(Rule rule) {
            for (int p = 0; p < rule.nodes; p++) {
                for (int q = 0; q <= p; q++) {
                    reachable[placeOf(p, q)] = stepsFrom(rule, p * rule.states, q * rule.states);
                }
            }
        }

        private static long stepsFrom(Rule rule, int firstOfP, int firstOfQ) {
            long steps = 0;
            for (int i = firstOfP; i < firstOfP + rule.states; i++) {
                for (int j = firstOfQ; j < firstOfQ + rule.states; j++) {
                    if (rule.table[i] == rule.table[j]) {
                        steps |= 1L << placeOf(rule.targets[i], rule.targets[j]);
                    }
                }
            }
            return steps;
        }
    }

    /** The search for the inverse that counts. */
    private static final class InverseSearch {
        private static final int LONGEST = 5;
        private static final int MOST_WORDS = 2187;
        private static final int MOST_IMAGES = 243;

        /** The length and the position of the inverse, the length 0 if there is none. */
        int length;
        int position;
        private final int[] imageOfWord;
        /** For each image the first word that has it, or -1. */
        private final int[] firstWord;

        InverseSearch() {
            imageOfWord = new int[MOST_WORDS];
            firstWord = new int[MOST_IMAGES];
        }

        void run(Rule rule) {
            length = 0;
            position = 0;
            Arrays.fill(imageOfWord, 0);
            for (int m = 1; m <= LONGEST; m++) {
                lengthenWords(rule, rule.countOfWords(m + rule.width - 1));
                int positions = commonPositions(rule, m);
                if (positions != 0) {
                    length = m;
                    position = Integer.numberOfTrailingZeros(positions);
                    return;
                }
            }
        }

        /** Going downwards, the image of the word without its last cell is still the old one when it is read. */
        private void lengthenWords(Rule rule, int words) {
            int neighborhood = rule.neighborhoods - 1;
            for (int i = words - 1; i >= 0; i--) {
                imageOfWord[i] = imageOfWord[rule.withoutLastCell(i)] * rule.states + rule.table[neighborhood];
                neighborhood = neighborhood == 0 ? rule.neighborhoods - 1 : neighborhood - 1;
            }
        }

        /** A bit for each position of an inverse of length m. */
        private int commonPositions(Rule rule, int m) {
            int wordLength = m + rule.width - 1;
            int words = rule.countOfWords(wordLength);
            int images = rule.countOfWords(m);
            Arrays.fill(firstWord, 0, images, -1);
            int positions = (1 << wordLength) - 1;
            int imagesMet = 0;
            for (int i = 0; i < words && positions != 0; i++) {
                int image = imageOfWord[i];
                if (firstWord[image] < 0) {
                    firstWord[image] = i;
                    imagesMet++;
                } else {
                    positions = equalPositions(rule, positions, wordLength, firstWord[image], i);
                }
            }
            return imagesMet == images ? positions : 0;
        }

        private static int equalPositions(Rule rule, int positions, int wordLength, int word, int other) {
            int result = positions;
            int rest = word;
            int otherRest = other;
            for (int i = wordLength - 1; i >= 0; i--) {
                if (rule.lastCell(rest) != rule.lastCell(otherRest)) {
                    result &= ~(1 << i);
                }
                rest = rule.withoutLastCell(rest);
                otherRest = rule.withoutLastCell(otherRest);
            }
            return result;
        }

        int stateFor(Rule rule, int image) {
            return rule.cellOf(firstWord[image], length + rule.width - 1, position);
        }
    }
}

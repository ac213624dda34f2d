import java.util.List;
import java.util.Random;

/** Random runs of calls, right and wrong ones, against the model; after each call the states are compared too. */
public final class ModelTest {
    private static final String SIGNS = "0123456789abcd!()+-*/%=<,minmaxabcab  ~&e";

    private final Random random;
    private final PreimageAnalyzer x = new PreimageAnalyzer();
    private final Model model = new Model();
    private final StringBuilder calls = new StringBuilder();

    private ModelTest(long seed) {
        random = new Random(seed);
        calls.append("seed ").append(seed).append(':');
    }

    public static void main(String[] args) {
        for (int seed = 0; seed < 500; seed++) {
            ModelTest run = new ModelTest(seed);
            if (!run.go()) {
                break;
            }
        }
        formulas();
        Check.end();
    }

    private boolean go() {
        if (random.nextInt(4) > 0) {
            chooseSize(2 + random.nextInt(2), 2 + random.nextInt(3));
        }
        chooseRule();
        for (int i = 0; i < 60; i++) {
            if (!callOne()) {
                return false;
            }
        }
        return true;
    }

    /** Formulas of all kinds, many of them with errors, read by both. */
    private static void formulas() {
        for (int seed = 0; seed < 20000; seed++) {
            Random random = new Random(seed);
            PreimageAnalyzer x = new PreimageAnalyzer();
            Model model = new Model();
            int states = 2 + random.nextInt(2);
            int width = 2 + random.nextInt(states == 2 ? 3 : 2);
            x.setSize(states, width);
            model.setSize(states, width);
            String text = formula(random, 5);
            if (random.nextInt(2) == 0) {
                text = spoil(random, text);
            }
            text = text.substring(0, Math.min(40, text.length()));
            Check.write(x, text);
            model.buffer.append(text);
            Check.due(text, Check.answer(model::compile), Check.answer(x::compile));
            Check.due("state after " + text, stateOf(model), Check.stateOf(x));
        }
    }

    static String formula(Random random, int depth) {
        switch (depth == 0 ? random.nextInt(3) : random.nextInt(12)) {
            case 0:
                return String.valueOf(random.nextInt(random.nextBoolean() ? 3 : 10));
            case 1:
            case 2:
                return String.valueOf((char) ('a' + random.nextInt(random.nextInt(10) == 0 ? 4 : 2)));
            case 3:
                return "!" + formula(random, depth - 1);
            case 4:
                return "(" + formula(random, depth - 1) + ")";
            case 5:
                return (random.nextBoolean() ? "min(" : "max(") + formula(random, depth - 1) + ","
                        + formula(random, depth - 1) + ")";
            default:
                return formula(random, depth - 1) + "++--*/%=<".charAt(random.nextInt(9))
                        + formula(random, depth - 1);
        }
    }

    static String spoil(Random random, String text) {
        int place = random.nextInt(text.length() + 1);
        switch (random.nextInt(3)) {
            case 0:
                return text.substring(0, place);
            case 1:
                return text.substring(0, place) + sign(random) + text.substring(place);
            default:
                return text.substring(0, place) + sign(random) + text.substring(Math.min(place + 1, text.length()));
        }
    }

    private static char sign(Random random) {
        char sign = SIGNS.charAt(random.nextInt(SIGNS.length()));
        return sign == ' ' ? 'm' : sign;
    }

    static String stateOf(Model model) {
        StringBuilder text = new StringBuilder();
        for (int i = 0; i < 4; i++) {
            text.append(model.size(i)).append(' ');
        }
        for (int i = 0; i < model.size(2); i++) {
            text.append(model.output(i));
        }
        for (int i = 0; i < 4; i++) {
            text.append(' ').append(model.wordLength(i)).append(':').append(model.wordIndex(i));
        }
        return text.append(' ').append(model.buffer.length()).append(' ').append(model.errorKind).append(' ')
                .append(model.errorPlace).toString();
    }

    private boolean same(String call, Check.Call ofModel, Check.Call ofX) {
        calls.append(' ').append(call);
        String want = Check.answer(ofModel);
        String got = Check.answer(ofX);
        String wantState = stateOf(model);
        String gotState = Check.stateOf(x);
        if (want.equals(got) && wantState.equals(gotState)) {
            Check.due(call, want, got);
            return true;
        }
        Check.due(calls.toString(), want + " | " + wantState, got + " | " + gotState);
        return false;
    }

    /** A number from low to high, now and then one beside them or far off. */
    private int about(int low, int high) {
        switch (random.nextInt(16)) {
            case 0:
                return random.nextBoolean() ? low - 1 : high + 1;
            case 1:
                return random.nextInt(4) == 0 ? random.nextInt() : high;
            default:
                return low + random.nextInt(high - low + 1);
        }
    }

    private boolean chooseSize(int states, int width) {
        return same("setSize(" + states + ", " + width + ")", () -> model.setSize(states, width),
                () -> x.setSize(states, width));
    }

    private boolean chooseNumber(long number) {
        return same("setNumber(" + number + ")", () -> model.setNumber(number), () -> x.setNumber(number));
    }

    private boolean chooseFormula(String text) {
        boolean fine = true;
        for (int i = 0; i < text.length() && fine; i++) {
            int sign = text.charAt(i);
            fine = same("append(" + sign + ")", () -> model.append(sign), () -> x.append(sign));
        }
        return fine && same("compile() of " + text, model::compile, x::compile);
    }

    private boolean chooseRule() {
        long rules = 1;
        for (int i = 0; i < model.size(2); i++) {
            rules *= model.k;
        }
        switch (random.nextInt(6)) {
            case 0:
                return chooseNumber((random.nextLong() >>> 1) % rules);
            case 1:
                return chooseNumber(random.nextBoolean() ? rules - random.nextInt(2) : -random.nextInt(2));
            case 2:
                return chooseFormula(String.valueOf((char) ('a' + random.nextInt(model.w))));
            case 3:
                return chooseFormula("a+" + random.nextInt(3) + "*b+" + random.nextInt(10));
            case 4:
                return model.w == 4 ? chooseFormula("b=!(a*!c*d)") : chooseFormula("b+a*" + random.nextInt(3));
            default:
                return chooseFormula(formula(random, 3).replaceAll("(?s)(.{36}).*", "$1"));
        }
    }

    private boolean callOne() {
        switch (random.nextInt(12)) {
            case 0:
                return chooseRule();
            case 1:
                return callOfRule();
            case 2:
            case 3:
            case 4:
                return callOfRegisters();
            case 5:
            case 6:
            case 7:
                return callOfPreimages();
            case 8:
                return callOfSnapshots();
            default:
                return callOfGraph();
        }
    }

    private boolean callOfRule() {
        int what = about(0, 3);
        int index = about(0, model.size(2) - 1);
        int output = about(0, model.k - 1);
        switch (random.nextInt(10)) {
            case 0:
                return same("size(" + what + ")", () -> model.size(what), () -> x.size(what));
            case 1:
            case 2:
                return same("setOutput(" + index + ", " + output + ")", () -> model.setOutput(index, output),
                        () -> x.setOutput(index, output));
            case 3:
                return same("output(" + index + ")", () -> model.output(index), () -> x.output(index));
            case 4:
                return same("number()", model::number, x::number);
            case 5:
                int packed = random.nextInt() & (random.nextBoolean() ? 0x7f7f7f7f : 0x3f003f3f);
                return same("append(" + packed + ")", () -> model.append(packed), () -> x.append(packed));
            case 6:
                return same("error(" + what + ")", () -> model.error(what), () -> x.error(what));
            case 7:
                return same("mirror()", model::mirror, x::mirror);
            case 8:
                return same("complement()", model::complement, x::complement);
            default:
                return random.nextInt(4) == 0 ? chooseSize(about(2, 3), about(2, 4))
                        : same("leastNumber()", model::leastNumber, x::leastNumber);
        }
    }

    private boolean callOfRegisters() {
        int register = about(0, 3);
        boolean cyclic = random.nextBoolean();
        int what = about(0, 1);
        switch (random.nextInt(8)) {
            case 0:
                return same("wordLength(" + register + ")", () -> model.wordLength(register),
                        () -> x.wordLength(register));
            case 1:
                return same("wordIndex(" + register + ")", () -> model.wordIndex(register),
                        () -> x.wordIndex(register));
            case 2:
                int cell = about(0, 7);
                return same("cell(" + register + ", " + cell + ")", () -> model.cell(register, cell),
                        () -> x.cell(register, cell));
            case 3:
                return same("apply(" + register + ", " + cyclic + ")", () -> model.apply(register, cyclic),
                        () -> x.apply(register, cyclic));
            case 4:
                return same("orbit(" + register + ", " + what + ")", () -> model.orbit(register, what),
                        () -> x.orbit(register, what));
            default:
                int length = random.nextInt(8) == 0 ? about(0, 14) : about(0, model.k == 2 ? 9 : 6);
                int index = about(0, Model.power(model.k, Math.max(0, Math.min(length, 14))) - 1);
                return same("setWord(" + register + ", " + length + ", " + index + ")",
                        () -> model.setWord(register, length, index), () -> x.setWord(register, length, index));
        }
    }

    private boolean callOfPreimages() {
        int register = about(0, 3);
        boolean cyclic = random.nextBoolean();
        int longest = random.nextInt(4) == 0 ? 7 : 4;
        if (register >= 0 && register < 4) {
            List<Integer> word = model.registers.get(register);
            if (Math.pow(model.k, word.size() + (cyclic ? 0 : model.w - 1)) > 20000) {
                return true;
            }
        }
        switch (random.nextInt(6)) {
            case 0:
                return same("preimageCount(" + register + ", " + cyclic + ")",
                        () -> model.preimageCount(register, cyclic), () -> x.preimageCount(register, cyclic));
            case 1:
                int number = about(0, random.nextBoolean() ? 3 : 12);
                int target = about(0, 3);
                return same("preimage(" + register + ", " + cyclic + ", " + number + ", " + target + ")",
                        () -> model.preimage(register, cyclic, number, target),
                        () -> x.preimage(register, cyclic, number, target));
            case 2:
                int first = about(0, model.size(3) - 1);
                int last = about(0, model.size(3) - 1);
                return same("preimagesBetween(" + register + ", " + first + ", " + last + ")",
                        () -> model.preimagesBetween(register, first, last),
                        () -> x.preimagesBetween(register, first, last));
            case 3:
                int length = about(0, longest);
                int count = about(0, 10);
                return same("wordsWith(" + length + ", " + count + ")", () -> model.wordsWith(length, count),
                        () -> x.wordsWith(length, count));
            case 4:
                int ofLength = about(0, longest);
                return same("mostPreimages(" + ofLength + ")", () -> model.mostPreimages(ofLength),
                        () -> x.mostPreimages(ofLength));
            default:
                int fixed = about(1, longest + 1);
                return same("fixedWords(" + fixed + ")", () -> model.fixedWords(fixed), () -> x.fixedWords(fixed));
        }
    }

    private boolean callOfGraph() {
        int register = about(0, 3);
        int node = about(0, model.size(3) - 1);
        int state = about(0, model.k - 1);
        int part = about(0, 1);
        switch (random.nextInt(8)) {
            case 0:
                return same("edge(" + node + ", " + state + ", " + part + ")", () -> model.edge(node, state, part),
                        () -> x.edge(node, state, part));
            case 1:
                return same("subsets()", model::subsets, x::subsets);
            case 2:
                int length = about(0, model.k == 2 ? 9 : 6);
                return same("orphans(" + length + ")", () -> model.orphans(length), () -> x.orphans(length));
            case 3:
                return same("shortestOrphan(" + register + ")", () -> model.shortestOrphan(register),
                        () -> x.shortestOrphan(register));
            case 4:
                int what = about(0, 6);
                return same("has(" + what + ")", () -> model.has(what) ? 1 : 0, () -> x.has(what) ? 1 : 0);
            case 5:
                return same("cyclicPairs()", model::cyclicPairs, x::cyclicPairs);
            case 6:
                return same("inverse(" + part + ")", () -> model.inverse(part), () -> x.inverse(part));
            default:
                int index = about(0, random.nextBoolean() ? 2 : 15);
                return same("inverseOutput(" + index + ")", () -> model.inverseOutput(index),
                        () -> x.inverseOutput(index));
        }
    }

    private boolean callOfSnapshots() {
        switch (random.nextInt(4)) {
            case 0:
                return same("save()", model::save, x::save);
            case 1:
                return same("restore()", model::restore, x::restore);
            default:
                return same("compose()", model::compose, x::compose);
        }
    }
}

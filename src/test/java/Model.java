import java.util.ArrayDeque;
import java.util.ArrayList;
import java.util.Arrays;
import java.util.HashMap;
import java.util.HashSet;
import java.util.LinkedHashMap;
import java.util.List;
import java.util.Map;
import java.util.NoSuchElementException;
import java.util.Set;
import java.util.TreeSet;

/**
 * The document's definitions, followed word by word and without thought of speed: words are lists of cells, tables
 * are maps from neighborhoods, preimages are found by trying, formulas are read by recursion.
 */
final class Model {
    int k = 2;
    int w = 3;
    Map<List<Integer>, Integer> table = new HashMap<>();
    List<List<Integer>> registers = new ArrayList<>();
    StringBuilder buffer = new StringBuilder();
    int errorKind = 0;
    int errorPlace = -1;
    Model savedOne = null;

    Model() {
        setSize(2, 3);
    }

    // Words.

    static int indexOf(int k, List<Integer> word) {
        int index = 0;
        for (int c : word) {
            index = index * k + c;
        }
        return index;
    }

    static List<Integer> word(int k, int length, int index) {
        List<Integer> cells = new ArrayList<>();
        int rest = index;
        for (int i = 0; i < length; i++) {
            cells.add(0, rest % k);
            rest /= k;
        }
        return cells;
    }

    static int power(int base, int exponent) {
        return exponent == 0 ? 1 : base * power(base, exponent - 1);
    }

    List<List<Integer>> allWords(int length) {
        List<List<Integer>> all = new ArrayList<>();
        for (int i = 0; i < power(k, length); i++) {
            all.add(word(k, length, i));
        }
        return all;
    }

    List<List<Integer>> neighborhoods() {
        return allWords(w);
    }

    List<Integer> image(List<Integer> word) {
        List<Integer> result = new ArrayList<>();
        for (int i = 0; i + w <= word.size(); i++) {
            result.add(table.get(word.subList(i, i + w)));
        }
        return result;
    }

    List<Integer> cyclicImage(List<Integer> word) {
        List<Integer> result = new ArrayList<>();
        for (int i = 0; i < word.size(); i++) {
            List<Integer> neighborhood = new ArrayList<>();
            for (int j = 0; j < w; j++) {
                neighborhood.add(word.get((i + j) % word.size()));
            }
            result.add(table.get(neighborhood));
        }
        return result;
    }

    /** All preimages in their order; a beginning whose image is no beginning of the word is given up. */
    List<List<Integer>> preimages(List<Integer> word) {
        List<List<Integer>> open = new ArrayList<>(allWords(w - 1));
        for (int i = 0; i < word.size(); i++) {
            List<List<Integer>> longer = new ArrayList<>();
            for (List<Integer> beginning : open) {
                for (int s = 0; s < k; s++) {
                    List<Integer> more = new ArrayList<>(beginning);
                    more.add(s);
                    if (table.get(more.subList(i, i + w)).equals(word.get(i))) {
                        longer.add(more);
                    }
                }
            }
            open = longer;
        }
        return open;
    }

    List<List<Integer>> cyclicPreimages(List<Integer> word) {
        List<List<Integer>> found = new ArrayList<>();
        if (!word.isEmpty()) {
            for (List<Integer> other : allWords(word.size())) {
                if (cyclicImage(other).equals(word)) {
                    found.add(other);
                }
            }
        }
        return found;
    }

    // Rules.

    int setSize(int states, int width) {
        boolean exists = states == 2 && Arrays.asList(2, 3, 4).contains(width)
                || states == 3 && Arrays.asList(2, 3).contains(width);
        if (!exists) {
            throw new IllegalArgumentException();
        }
        k = states;
        w = width;
        table = new HashMap<>();
        for (List<Integer> neighborhood : neighborhoods()) {
            table.put(neighborhood, 0);
        }
        registers = new ArrayList<>();
        for (int i = 0; i < 4; i++) {
            registers.add(new ArrayList<>());
        }
        return table.size();
    }

    int size(int what) {
        if (what < 0 || what > 3) {
            throw new IndexOutOfBoundsException();
        }
        return new int[] {k, w, power(k, w), power(k, w - 1)}[what];
    }

    int setOutput(int index, int output) {
        int previous = output(index);
        if (output < 0 || output > k - 1) {
            throw new IllegalArgumentException();
        }
        table.put(word(k, w, index), output);
        return previous;
    }

    int output(int index) {
        if (index < 0 || index >= table.size()) {
            throw new IndexOutOfBoundsException();
        }
        return table.get(word(k, w, index));
    }

    int setNumber(long number) {
        java.math.BigInteger rules = java.math.BigInteger.valueOf(k).pow(table.size());
        java.math.BigInteger wanted = java.math.BigInteger.valueOf(number);
        if (wanted.signum() < 0 || wanted.compareTo(rules) >= 0) {
            throw new IllegalArgumentException();
        }
        Map<List<Integer>, Integer> next = new HashMap<>();
        String digits = new StringBuilder(wanted.toString(k)).reverse().toString();
        for (List<Integer> neighborhood : neighborhoods()) {
            int index = indexOf(k, neighborhood);
            next.put(neighborhood, index < digits.length() ? digits.charAt(index) - '0' : 0);
        }
        return change(next);
    }

    int change(Map<List<Integer>, Integer> next) {
        int changes = 0;
        for (List<Integer> neighborhood : neighborhoods()) {
            if (!next.get(neighborhood).equals(table.get(neighborhood))) {
                changes++;
            }
        }
        table = next;
        return changes;
    }

    static long numberOf(int k, Map<List<Integer>, Integer> table) {
        java.math.BigInteger sum = java.math.BigInteger.ZERO;
        for (Map.Entry<List<Integer>, Integer> entry : table.entrySet()) {
            sum = sum.add(java.math.BigInteger.valueOf(k).pow(indexOf(k, entry.getKey()))
                    .multiply(java.math.BigInteger.valueOf(entry.getValue())));
        }
        return sum.longValueExact();
    }

    long number() {
        return numberOf(k, table);
    }

    int append(int packed) {
        String added = "";
        for (int i = 3; i >= 0; i--) {
            int sign = (packed >> 8 * i) & 0xff;
            if (sign != 0) {
                added += (char) sign;
            }
        }
        for (char sign : added.toCharArray()) {
            if (sign < 33 || sign > 126) {
                throw new IllegalArgumentException();
            }
        }
        if (buffer.length() + added.length() > 40) {
            throw new IllegalStateException();
        }
        buffer.append(added);
        return buffer.length();
    }

    int compile() {
        String text = buffer.toString();
        buffer = new StringBuilder();
        errorKind = 0;
        errorPlace = -1;
        Reader reader = new Reader(text, w);
        Term term;
        try {
            term = reader.readWhole();
        } catch (Fault fault) {
            errorKind = fault.kind;
            errorPlace = fault.place;
            throw new IllegalArgumentException();
        }
        Map<List<Integer>, Integer> next = new HashMap<>();
        for (List<Integer> neighborhood : neighborhoods()) {
            try {
                int value = term.value(neighborhood) % k;
                next.put(neighborhood, value < 0 ? value + k : value);
            } catch (Fault fault) {
                errorKind = fault.kind;
                errorPlace = indexOf(k, neighborhood);
                throw new ArithmeticException();
            }
        }
        return change(next);
    }

    int error(int what) {
        if (what != 0 && what != 1) {
            throw new IndexOutOfBoundsException();
        }
        return what == 0 ? errorKind : errorPlace;
    }

    Map<List<Integer>, Integer> mirrorOf(Map<List<Integer>, Integer> from) {
        Map<List<Integer>, Integer> next = new HashMap<>();
        for (List<Integer> neighborhood : neighborhoods()) {
            List<Integer> reversed = new ArrayList<>(neighborhood);
            java.util.Collections.reverse(reversed);
            next.put(neighborhood, from.get(reversed));
        }
        return next;
    }

    Map<List<Integer>, Integer> complementOf(Map<List<Integer>, Integer> from) {
        Map<List<Integer>, Integer> next = new HashMap<>();
        for (List<Integer> neighborhood : neighborhoods()) {
            List<Integer> other = new ArrayList<>();
            for (int c : neighborhood) {
                other.add(k - 1 - c);
            }
            next.put(neighborhood, k - 1 - from.get(other));
        }
        return next;
    }

    int mirror() {
        return change(mirrorOf(table));
    }

    int complement() {
        return change(complementOf(table));
    }

    long leastNumber() {
        long[] numbers = {number(), numberOf(k, mirrorOf(table)), numberOf(k, complementOf(table)),
            numberOf(k, complementOf(mirrorOf(table)))};
        Arrays.sort(numbers);
        return numbers[0];
    }

    int compose() {
        if (savedOne == null || savedOne.k != k) {
            throw new IllegalStateException();
        }
        int width = w + savedOne.w - 1;
        if (width > (k == 2 ? 4 : 3)) {
            throw new IllegalStateException();
        }
        Map<List<Integer>, Integer> next = new HashMap<>();
        for (List<Integer> word : allWords(width)) {
            next.put(word, image(savedOne.image(word)).get(0));
        }
        w = width;
        table = next;
        return width;
    }

    // Registers.

    List<Integer> register(int register) {
        if (register < 0 || register > 3) {
            throw new IndexOutOfBoundsException();
        }
        return registers.get(register);
    }

    int setWord(int register, int length, int index) {
        int previous = register(register).size();
        if (length < 0 || length > 14 || index < 0 || index >= power(k, length)) {
            throw new IllegalArgumentException();
        }
        registers.set(register, word(k, length, index));
        return previous;
    }

    int wordLength(int register) {
        return register(register).size();
    }

    int wordIndex(int register) {
        return indexOf(k, register(register));
    }

    int cell(int register, int cell) {
        List<Integer> word = register(register);
        if (cell < 0 || cell >= word.size()) {
            throw new IndexOutOfBoundsException();
        }
        return word.get(cell);
    }

    int apply(int register, boolean cyclic) {
        List<Integer> word = register(register);
        if (word.size() < (cyclic ? 1 : w)) {
            throw new IllegalStateException();
        }
        registers.set(register, cyclic ? cyclicImage(word) : image(word));
        return registers.get(register).size();
    }

    int orbit(int register, int what) {
        List<Integer> word = register(register);
        if (what != 0 && what != 1) {
            throw new IndexOutOfBoundsException();
        }
        if (word.isEmpty() || word.size() > 8) {
            throw new IllegalStateException();
        }
        List<List<Integer>> met = new ArrayList<>();
        while (!met.contains(word)) {
            met.add(word);
            word = cyclicImage(word);
        }
        return what == 0 ? met.indexOf(word) : met.size() - met.indexOf(word);
    }

    // Preimages.

    int preimageCount(int register, boolean cyclic) {
        List<Integer> word = register(register);
        return (cyclic ? cyclicPreimages(word) : preimages(word)).size();
    }

    int preimage(int register, boolean cyclic, int number, int target) {
        List<Integer> word = register(register);
        register(target);
        if (!cyclic && word.size() + w - 1 > 14) {
            throw new IllegalStateException();
        }
        List<List<Integer>> all = cyclic ? cyclicPreimages(word) : preimages(word);
        if (number < 0 || number >= all.size()) {
            throw new NoSuchElementException();
        }
        registers.set(target, all.get(number));
        return indexOf(k, all.get(number));
    }

    int preimagesBetween(int register, int first, int last) {
        List<Integer> word = register(register);
        if (first < 0 || last < 0 || first >= power(k, w - 1) || last >= power(k, w - 1)) {
            throw new IndexOutOfBoundsException();
        }
        int count = 0;
        for (List<Integer> preimage : preimages(word)) {
            List<Integer> beginning = preimage.subList(0, w - 1);
            List<Integer> end = preimage.subList(preimage.size() - w + 1, preimage.size());
            if (indexOf(k, beginning) == first && indexOf(k, end) == last) {
                count++;
            }
        }
        return count;
    }

    /** For each word of a length the number of its preimages. */
    Map<List<Integer>, Integer> countsOf(int length) {
        Map<List<Integer>, Integer> counts = new HashMap<>();
        for (List<Integer> word : allWords(length)) {
            counts.put(word, 0);
        }
        for (List<Integer> word : allWords(length + w - 1)) {
            counts.merge(image(word), 1, Integer::sum);
        }
        return counts;
    }

    static void needLength(int length, int least, int most) {
        if (length < least || length > most) {
            throw new IllegalArgumentException();
        }
    }

    int wordsWith(int length, int count) {
        needLength(length, 0, 7);
        return (int) countsOf(length).values().stream().filter(c -> c == count).count();
    }

    int mostPreimages(int length) {
        needLength(length, 0, 7);
        return java.util.Collections.max(countsOf(length).values());
    }

    int fixedWords(int length) {
        needLength(length, 1, 8);
        int count = 0;
        for (List<Integer> word : allWords(length)) {
            if (cyclicImage(word).equals(word)) {
                count++;
            }
        }
        return count;
    }

    // Graph and properties.

    int edge(int node, int state, int what) {
        if (node < 0 || node >= power(k, w - 1) || state < 0 || state >= k || what < 0 || what > 1) {
            throw new IndexOutOfBoundsException();
        }
        List<Integer> cells = word(k, w - 1, node);
        cells.add(state);
        return what == 0 ? indexOf(k, cells.subList(1, w)) : table.get(cells);
    }

    Set<Integer> successors(Set<Integer> nodes, int label) {
        Set<Integer> result = new TreeSet<>();
        for (int node : nodes) {
            for (int s = 0; s < k; s++) {
                if (edge(node, s, 1) == label) {
                    result.add(edge(node, s, 0));
                }
            }
        }
        return result;
    }

    /** Each reachable set with the first of the shortest words that lead to it. */
    Map<Set<Integer>, List<Integer>> reachableSets() {
        Set<Integer> all = new TreeSet<>();
        for (int node = 0; node < power(k, w - 1); node++) {
            all.add(node);
        }
        Map<Set<Integer>, List<Integer>> words = new LinkedHashMap<>();
        words.put(all, new ArrayList<>());
        ArrayDeque<Set<Integer>> queue = new ArrayDeque<>();
        queue.add(all);
        while (!queue.isEmpty()) {
            Set<Integer> set = queue.remove();
            for (int c = 0; c < k; c++) {
                Set<Integer> next = successors(set, c);
                if (!words.containsKey(next)) {
                    List<Integer> word = new ArrayList<>(words.get(set));
                    word.add(c);
                    words.put(next, word);
                    queue.add(next);
                }
            }
        }
        return words;
    }

    int subsets() {
        return reachableSets().size();
    }

    int orphans(int length) {
        needLength(length, 0, 12);
        Set<List<Integer>> images = new HashSet<>();
        for (int i = 0; i < power(k, length + w - 1); i++) {
            images.add(image(word(k, length + w - 1, i)));
        }
        return power(k, length) - images.size();
    }

    int shortestOrphan(int register) {
        register(register);
        List<Integer> word = reachableSets().get(new TreeSet<Integer>());
        if (word == null) {
            throw new NoSuchElementException();
        }
        if (word.size() > 14) {
            throw new IllegalStateException();
        }
        registers.set(register, word);
        return word.size();
    }

    boolean has(int what) {
        switch (what) {
            case 0:
                return !reachableSets().containsKey(new TreeSet<Integer>());
            case 1:
                return cyclicPairs() == 0;
            case 2:
                return isPermutive(0);
            case 3:
                return isPermutive(w - 1);
            case 4:
                for (int c = 0; c < k; c++) {
                    int state = c;
                    if (table.values().stream().filter(o -> o == state).count() * k != table.size()) {
                        return false;
                    }
                }
                return true;
            case 5:
                return mirrorOf(table).equals(table);
            case 6:
                return complementOf(table).equals(table);
            default:
                throw new IndexOutOfBoundsException();
        }
    }

    boolean isPermutive(int place) {
        for (List<Integer> neighborhood : neighborhoods()) {
            Set<Integer> outputs = new HashSet<>();
            for (int s = 0; s < k; s++) {
                List<Integer> other = new ArrayList<>(neighborhood);
                other.set(place, s);
                outputs.add(table.get(other));
            }
            if (outputs.size() < k) {
                return false;
            }
        }
        return true;
    }

    int cyclicPairs() {
        int n = power(k, w - 1);
        int count = 0;
        for (int p = 0; p < n; p++) {
            for (int q = 0; q < n; q++) {
                if (p != q && comesBack(p, q)) {
                    count++;
                }
            }
        }
        return count;
    }

    boolean comesBack(int p, int q) {
        Set<List<Integer>> met = new HashSet<>();
        ArrayDeque<List<Integer>> queue = new ArrayDeque<>();
        queue.add(Arrays.asList(p, q));
        while (!queue.isEmpty()) {
            List<Integer> pair = queue.remove();
            for (int s = 0; s < k; s++) {
                for (int t = 0; t < k; t++) {
                    if (edge(pair.get(0), s, 1) == edge(pair.get(1), t, 1)) {
                        List<Integer> next = Arrays.asList(edge(pair.get(0), s, 0), edge(pair.get(1), t, 0));
                        if (met.add(next)) {
                            queue.add(next);
                        }
                    }
                }
            }
        }
        return met.contains(Arrays.asList(p, q));
    }

    /** The inverse of this length at this position, or null. */
    Map<List<Integer>, Integer> inverseAt(int m, int p) {
        Map<List<Integer>, Integer> states = new HashMap<>();
        for (List<Integer> word : allWords(m + w - 1)) {
            Integer before = states.put(image(word), word.get(p));
            if (before != null && !before.equals(word.get(p))) {
                return null;
            }
        }
        return states.size() == power(k, m) ? states : null;
    }

    /** The length and the position of the inverse that counts. */
    int[] findInverse() {
        for (int m = 1; m <= 5; m++) {
            for (int p = 0; p <= m + w - 2; p++) {
                if (inverseAt(m, p) != null) {
                    return new int[] {m, p};
                }
            }
        }
        throw new NoSuchElementException();
    }

    int inverse(int what) {
        if (what != 0 && what != 1) {
            throw new IndexOutOfBoundsException();
        }
        return findInverse()[what];
    }

    int inverseOutput(int index) {
        int[] found = findInverse();
        if (index < 0 || index >= power(k, found[0])) {
            throw new IndexOutOfBoundsException();
        }
        return inverseAt(found[0], found[1]).get(word(k, found[0], index));
    }

    // Snapshots.

    private void take(Model other) {
        k = other.k;
        w = other.w;
        table = new HashMap<>(other.table);
        registers = new ArrayList<>(other.registers);
    }

    long save() {
        savedOne = new Model();
        savedOne.take(this);
        return number();
    }

    long restore() {
        if (savedOne == null) {
            throw new IllegalStateException();
        }
        take(savedOne);
        return number();
    }

    // Formulas.

    static final class Fault extends RuntimeException {
        private static final long serialVersionUID = 1L;
        final int kind;
        final int place;

        Fault(int kind, int place) {
            this.kind = kind;
            this.place = place;
        }
    }

    interface Term {
        int value(List<Integer> cells);
    }

    static final class Reader {
        final String text;
        final int width;
        int at = 0;

        Reader(String text, int width) {
            this.text = text;
            this.width = width;
        }

        boolean sees(String signs) {
            return at < text.length() && signs.indexOf(text.charAt(at)) >= 0;
        }

        char take(String signs) {
            if (at == text.length()) {
                throw new Fault(2, at);
            }
            if (!sees(signs)) {
                throw new Fault(1, at);
            }
            return text.charAt(at++);
        }

        Term readWhole() {
            Term term = formula();
            if (at < text.length()) {
                throw new Fault(1, at);
            }
            return term;
        }

        Term formula() {
            Term left = sum();
            return sees("=<") ? binary(take("=<"), left, sum()) : left;
        }

        Term sum() {
            Term left = product();
            while (sees("+-")) {
                left = binary(take("+-"), left, product());
            }
            return left;
        }

        Term product() {
            Term left = factor();
            while (sees("*/%")) {
                left = binary(take("*/%"), left, factor());
            }
            return left;
        }

        Term factor() {
            char sign = take("0123456789abcd!(m");
            if (sign >= '0' && sign <= '9') {
                return cells -> sign - '0';
            }
            if (sign >= 'a' && sign <= 'd') {
                if (sign - 'a' >= width) {
                    throw new Fault(3, at - 1);
                }
                return cells -> cells.get(sign - 'a');
            }
            if (sign == '!') {
                Term inner = factor();
                return cells -> inner.value(cells) == 0 ? 1 : 0;
            }
            if (sign == '(') {
                Term inner = formula();
                take(")");
                return inner;
            }
            return call();
        }

        Term call() {
            char name = take("ia");
            take(name == 'i' ? "n" : "x");
            take("(");
            Term first = formula();
            take(",");
            Term second = formula();
            take(")");
            return binary(name, first, second);
        }

        static Term binary(char operator, Term left, Term right) {
            return cells -> {
                int x = left.value(cells);
                int y = right.value(cells);
                if (y == 0 && (operator == '/' || operator == '%')) {
                    throw new Fault(operator == '/' ? 4 : 5, 0);
                }
                switch (operator) {
                    case '+': return x + y;
                    case '-': return x - y;
                    case '*': return x * y;
                    case '/': return x / y;
                    case '%': return x % y;
                    case '=': return x == y ? 1 : 0;
                    case '<': return x < y ? 1 : 0;
                    case 'i': return x < y ? x : y;
                    default: return x < y ? y : x;
                }
            };
        }
    }
}

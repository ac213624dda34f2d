import java.lang.reflect.InvocationTargetException;
import java.lang.reflect.Method;
import java.lang.reflect.Modifier;
import java.util.ArrayList;
import java.util.Arrays;
import java.util.Comparator;
import java.util.HashMap;
import java.util.HashSet;
import java.util.List;
import java.util.Map;
import java.util.Set;

/** Runs tests each of which is about one sentence of the document, and keeps book of the sentences. */
final class Sentences {
    private static final Document DOCUMENT = new Document();
    /** The words that tests are about, for each section. */
    private static final Map<String, List<String>> QUOTED = new HashMap<>();

    private Sentences() {
    }

    /**
     * Says what the checks that follow are about.
     *
     * @param where the section, and behind a colon the paragraph, for instance "Description: Formulas"
     * @param words the sentence, or the part of it that names the boundary, in the document's own words
     */
    static void about(String where, String words) {
        Check.setTopic("[" + where + ", \"" + words + "\"] ");
        String section = where.replaceAll(":.*", "");
        Check.due("the document's section " + section, true, DOCUMENT.says(section, words));
        QUOTED.computeIfAbsent(section, key -> new ArrayList<>()).add(words);
    }

    /** Runs all static methods of a class without parameters and result; each is one test. */
    static void run(Class<?> group) throws IllegalAccessException {
        Method[] methods = group.getDeclaredMethods();
        Arrays.sort(methods, Comparator.comparing(Method::getName));
        for (Method method : methods) {
            if (Modifier.isStatic(method.getModifiers()) && method.getParameterCount() == 0
                    && method.getReturnType() == void.class && !method.isSynthetic()) {
                method.setAccessible(true);
                runOne(method);
            }
        }
        Check.setTopic("");
    }

    private static void runOne(Method method) throws IllegalAccessException {
        Check.setTopic("[no sentence] ");
        int before = Check.checksSoFar();
        try {
            method.invoke(null);
        } catch (InvocationTargetException e) {
            Check.due(method.getName() + "()", "nothing thrown", e.getCause() + " thrown");
        }
        // The first check is that of the sentence itself.
        Check.due("a check in " + method.getName() + "()", true, Check.checksSoFar() > before + 1);
    }

    /** Each sentence is quoted by a test, or is listed as one that names no boundary, and no list is out of date. */
    static void allAreTested(List<String> sectionsLeftOut, List<String> plain) {
        Set<String> met = new HashSet<>();
        for (String section : DOCUMENT.sections()) {
            for (String sentence : DOCUMENT.sentencesOf(section)) {
                met.add(sentence);
                // What stands in backquotes at the beginning is the signature of a method.
                boolean isPlain = sectionsLeftOut.contains(section) || plain.contains(sentence)
                        || sentence.startsWith("`");
                Check.due("a test about \"" + sentence + "\" of " + section, true,
                        isPlain || isQuoted(section, sentence));
            }
        }
        for (String sentence : plain) {
            Check.due("the document's sentence \"" + sentence + "\"", true, met.contains(sentence));
        }
    }

    private static boolean isQuoted(String section, String sentence) {
        for (String words : QUOTED.getOrDefault(section, List.of())) {
            if (words.contains(sentence) || sentence.contains(words)) {
                return true;
            }
        }
        return false;
    }
}

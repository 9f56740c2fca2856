import java.lang.reflect.Method;
import java.util.Map;
import java.util.TreeMap;
import java.util.regex.Matcher;
import java.util.regex.Pattern;

/** Every word of the terms and the promises is quoted by a test, and every quotation is true to the document. */
final class DocumentTest {
    private static final Pattern PROMISE = Pattern.compile("(?s)## Promise (\\d+): [^\n]+\n(.*?)(?=\n## )");
    private static final Pattern TERMS = Pattern.compile("(?s)(An object is used for.*?)\n## .*## Terms\n(.*?)\n## Promise");

    private DocumentTest() {
    }

    /** The words that are to be quoted, by the numbers of their promises. */
    private static Map<Integer, String> sections() {
        String document = FaceTest.read("../shared/DOC.md");
        Map<Integer, String> sections = new TreeMap<>();
        Matcher terms = TERMS.matcher(document);
        Check.same(true, terms.find());
        sections.put(0, plain(terms.group(1) + "\n" + terms.group(2).replaceAll("\n\n[A-Z][a-z]+\\. ", "\n\n")));
        for (Matcher promise = PROMISE.matcher(document); promise.find();) {
            String text = promise.group(2).replaceAll("(?m)^`[^`]*`: ", "").replaceAll("(?m)^- `\\w+`: [^0-9\n]*$", "");
            sections.put(Integer.valueOf(promise.group(1)), plain(text));
        }
        return sections;
    }

    private static String plain(String text) {
        return text.replace('"', '\'').replace("`", "").replaceAll("\\s+", " ").trim();
    }

    private static boolean cover(String section, String quotation, boolean[] quoted) {
        int at = section.indexOf(quotation);
        boolean found = at >= 0;
        while (at >= 0) {
            java.util.Arrays.fill(quoted, at, at + quotation.length(), true);
            at = section.indexOf(quotation, at + 1);
        }
        return found;
    }

    private static void coverAll(int promise, String section, boolean[] quoted) {
        for (Class<?> each : AllTests.CLASSES) {
            for (Method test : each.getDeclaredMethods()) {
                Says says = test.getAnnotation(Says.class);
                if (says == null || says.promise() != promise) {
                    continue;
                }
                for (String quotation : says.value()) {
                    if (!cover(section, quotation, quoted)) {
                        Check.fault(test.getName() + " quotes what promise " + promise + " does not say: " + quotation);
                    }
                }
            }
        }
    }

    static void everyWordIsQuotedByATest() {
        Map<Integer, String> sections = sections();
        Check.same(44, sections.size());
        for (Map.Entry<Integer, String> section : sections.entrySet()) {
            String text = section.getValue();
            boolean[] quoted = new boolean[text.length()];
            coverAll(section.getKey(), text, quoted);
            StringBuilder left = new StringBuilder();
            for (int i = 0; i < quoted.length; i++) {
                left.append(quoted[i] ? '~' : text.charAt(i));
            }
            String words = left.toString().replaceAll("~+", " ~ ").trim();
            if (words.matches("(?s).*[A-Za-z0-9].*")) {
                Check.fault("no test quotes of promise " + section.getKey() + ": " + words);
            }
        }
    }
}

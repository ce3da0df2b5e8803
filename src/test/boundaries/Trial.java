import java.io.IOException;
import java.lang.reflect.Method;
import java.nio.file.Files;
import java.nio.file.Path;
import java.util.ArrayList;
import java.util.LinkedHashMap;
import java.util.List;
import java.util.Map;
import java.util.Set;
import java.util.TreeSet;
import java.util.function.Function;
import java.util.function.Supplier;
import java.util.function.ToLongFunction;

/** Runs the tests that quote a sentence, and holds what they share. */
final class Trial {
    private static final Set<String> quoted = new TreeSet<>();
    private static String now = "";
    private static int step = 0;
    private static int tests = 0;
    private static int wrong = 0;

    static void run(Class<?> part) {
        for (Method m : part.getDeclaredMethods()) {
            Sentence told = m.getAnnotation(Sentence.class);
            if (told != null) {
                begin(m, told);
                try {
                    m.invoke(null);
                } catch (ReflectiveOperationException e) {
                    fail("the test ended by " + e.getCause());
                }
            }
        }
    }

    private static void begin(Method m, Sentence told) {
        now = told.of() + ", \"" + told.says() + "\", " + m.getName();
        step = 0;
        tests++;
        quoted.add(key(told.of(), told.says()));
    }

    /** How many answers were not as due. */
    static int end() {
        System.out.println(wrong == 0
                ? tests + " tests of the document's sentences hold"
                : wrong + " answers are not as due");
        return wrong;
    }

    static void due(long want, long got) {
        step++;
        if (want != got) {
            fail("answered " + got + ", due is " + want);
        }
    }

    static void fail(String text) {
        wrong++;
        System.out.println(now + ", step " + step + ": " + text);
    }

    /**
     * The call is refused as told, and a form that heard it can't be told from its twin that did
     * not: each probe asks a pair of its own, as probing changes forms too.
     */
    static void refused(long want, Supplier<Form> made, ToLongFunction<Form> call) {
        due(want, call.applyAsLong(made.get()));
        for (Function<Form, String> probe : Probes.ALL) {
            Form heard = made.get();
            call.applyAsLong(heard);
            String after = probe.apply(heard);
            String twin = probe.apply(made.get());
            if (!after.equals(twin)) {
                fail("refused, yet something changed: " + after + " beside " + twin);
            }
        }
    }

    /** Every byte but the last goes on; the last is answered as told. */
    static void row(Form x, long want, int... bytes) {
        for (int i = 0; i < bytes.length; i++) {
            due(i == bytes.length - 1 ? want : 0, x.read(bytes[i]));
        }
    }

    /** Every sentence of the terms and promises has a test, and every test quotes a true one. */
    static void compareWith(Path document) {
        now = "the sentences of " + document;
        step = 0;
        if (!Files.exists(document)) {
            System.out.println(document + " is not here: the quotes were not compared with it");
            return;
        }
        Set<String> there = new TreeSet<>();
        sentencesOf(document).forEach((section, told) -> {
            for (String sentence : told) {
                String key = key(section, sentence);
                there.add(key);
                if (!section.equals("What it is") && !quoted.contains(key)) {
                    fail("no test quotes " + key);
                }
            }
        });
        for (String key : quoted) {
            if (!there.contains(key)) {
                fail("not in the document: " + key);
            }
        }
    }

    private static String key(String section, String sentence) {
        String bare = sentence.endsWith(".") ? sentence.substring(0, sentence.length() - 1) : sentence;
        return section + " | " + bare;
    }

    private static Map<String, List<String>> sentencesOf(Path document) {
        Map<String, List<String>> found = new LinkedHashMap<>();
        for (String section : textOf(document).split("(?m)^## ")) {
            String name = section.lines().findFirst().orElse("").replaceAll(":.*", "");
            if (name.matches("What it is|Terms|Promise \\d+")) {
                String body = section.substring(section.indexOf('\n') + 1).strip();
                found.put(name, sentencesIn(body));
            }
        }
        return found;
    }

    private static List<String> sentencesIn(String body) {
        List<String> sentences = new ArrayList<>();
        for (String paragraph : body.split("\n\n")) {
            String bare = paragraph.strip().replaceAll("^`[^`]*`: ", "");
            sentences.addAll(List.of(bare.split("(?<=[^. ])\\. (?=[A-Z])")));
        }
        return sentences;
    }

    private static String textOf(Path document) {
        try {
            return Files.readString(document);
        } catch (IOException e) {
            fail("can't be read: " + e);
            return "";
        }
    }

    private Trial() {
    }
}

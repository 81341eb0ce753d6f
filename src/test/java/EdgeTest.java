import java.io.IOException;
import java.lang.reflect.InvocationTargetException;
import java.lang.reflect.Method;
import java.nio.file.Files;
import java.nio.file.Path;
import java.util.ArrayList;
import java.util.Arrays;
import java.util.Comparator;
import java.util.LinkedHashMap;
import java.util.List;
import java.util.Map;

/**
 * The document sentence by sentence: each method of the classes below tests the words that it says, at their bounds and
 * just beyond. The words must stand in the document, and no word of the terms and promises may be left unsaid.
 */
public final class EdgeTest {
    private static final Class<?>[] PARTS = {HouseEdges.class, ScoreEdges.class, LawEdges.class, EveningEdges.class,
        ChoiceEdges.class, KeepingEdges.class, TellingEdges.class, AskingEdges.class};

    private static final Path DOCUMENT = Path.of("../shared/DOC.md");

    private EdgeTest() {
    }

    public static void main(String[] args) throws IOException, ReflectiveOperationException {
        Map<String, Heading> document = new LinkedHashMap<>();
        if (Files.isReadable(DOCUMENT)) {
            document.putAll(read(Files.readString(DOCUMENT)));
        } else {
            System.out.println(DOCUMENT + " can't be read: what the tests say is not held against it");
        }
        int tests = 0;
        for (Method m : tests()) {
            Says says = m.getAnnotation(Says.class);
            Stage.about(m.getDeclaringClass().getName() + "." + m.getName() + ", " + says.of() + " "
                    + Arrays.toString(says.text()));
            run(m.getDeclaringClass(), m);
            if (!document.isEmpty()) {
                mark(document, says);
            }
            tests++;
        }
        document.forEach(EdgeTest::demandAllSaid);
        System.out.println(tests + " sentences tested");
        Stage.endWithTally();
    }

    private static List<Method> tests() {
        List<Method> all = new ArrayList<>();
        for (Class<?> part : PARTS) {
            Method[] methods = part.getDeclaredMethods();
            Arrays.sort(methods, Comparator.comparing(Method::getName));
            for (Method m : methods) {
                if (m.isAnnotationPresent(Says.class)) {
                    all.add(m);
                }
            }
        }
        return all;
    }

    private static void run(Class<?> part, Method m) throws ReflectiveOperationException {
        try {
            m.invoke(part.getDeclaredConstructor().newInstance());
        } catch (InvocationTargetException e) {
            Stage.fail("threw " + e.getCause());
        }
    }

    // ---- the document

    /** A heading's text, and which of its signs some test has said. */
    private static final class Heading {
        final String text;
        final boolean[] isSaid;

        Heading(String text) {
            this.text = text;
            isSaid = new boolean[text.length()];
        }
    }

    private static String plain(String text) {
        return text.replaceAll("\\s+", " ").trim();
    }

    /** By what stands ahead of the colon in each heading; without fences, the parts' numbers and the heads of calls. */
    private static Map<String, Heading> read(String text) {
        Map<String, Heading> all = new LinkedHashMap<>();
        for (String part : text.split("(?m)^## ")) {
            int end = part.indexOf('\n');
            String name = part.substring(0, end).replaceAll(":.*", "").trim();
            String body = part.substring(end).replaceAll("(?m)^```\\w*$", "").replaceAll("==== \\d\\.", "")
                    .replaceAll("(?m)^`[^`]*`: ?", "");
            all.put(name, new Heading(plain(body)));
        }
        return all;
    }

    private static void mark(Map<String, Heading> document, Says says) {
        Heading heading = document.get(says.of());
        for (String words : says.text()) {
            int at = heading == null ? -1 : heading.text.indexOf(plain(words));
            if (at < 0 || heading.text.indexOf(plain(words), at + 1) >= 0) {
                Stage.fail("the document does not say once: " + words);
                continue;
            }
            Arrays.fill(heading.isSaid, at, at + plain(words).length(), true);
        }
    }

    private static void demandAllSaid(String name, Heading heading) {
        if (!name.equals("Terms") && !name.startsWith("Promise ")) {
            return;
        }
        StringBuilder unsaid = new StringBuilder();
        for (int i = 0; i < heading.text.length(); i++) {
            if (!heading.isSaid[i]) {
                unsaid.append(heading.text.charAt(i));
            } else if (unsaid.length() > 0 && unsaid.charAt(unsaid.length() - 1) != '~') {
                unsaid.append('~');
            }
        }
        Stage.about(name);
        if (unsaid.toString().matches("(?s).*[A-Za-z0-9].*")) {
            Stage.fail("no test says: " + unsaid.toString().replaceAll("[ ~]*~[ ~]*", " ~ "));
        }
    }
}

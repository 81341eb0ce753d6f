import java.io.IOException;
import java.lang.reflect.Constructor;
import java.lang.reflect.Field;
import java.lang.reflect.Method;
import java.lang.reflect.Modifier;
import java.nio.file.Files;
import java.nio.file.Path;
import java.util.ArrayList;
import java.util.Arrays;
import java.util.HashSet;
import java.util.List;
import java.util.Set;
import java.util.TreeSet;
import java.util.regex.Matcher;
import java.util.regex.Pattern;

/** The public face just as the document has it, and the rules of LANGUAGE.md that a text search can see. */
public final class FaceTest {
    private static final String[] HEADS = {
        "boolean seat(int,int,boolean,int)", "boolean slate(int,int,int,int,int)", "boolean nail(int,boolean)",
        "boolean rain(int,int)", "boolean guest(int,int)", "boolean sits(int,int,int,int)",
        "int feed(int,int,int,int,int)", "int score(int)", "int law(int)", "int note(int,int)", "int drops(int,int)",
        "int wet(int,int,int)", "int guestWet(int,int)", "int house(int,int)", "int seated(int,int,int,int)",
        "int transposed(int,int)", "int leftOut(int,int,int)", "int nails(int,int)", "int sung(int,int,int)",
        "int sponge(int,int)", "int paid(int)", "int perform()", "int soFar(int)", "boolean seed(int)", "int draw()",
        "int keep()", "boolean undo()", "int check(int,int,int)", "int count(int)"};

    private static int wrong;

    private static void demand(boolean is, String what) {
        if (!is) {
            wrong++;
            System.out.println(what);
        }
    }

    public static void main(String[] args) throws IOException {
        methodsAreAsTold();
        fieldsAndClassesAreAsTold();
        sourceKeepsToTheLanguage();
        System.out.println(wrong == 0 ? "the face is as told" : wrong + " things are not as told");
        if (wrong != 0) {
            System.exit(1);
        }
    }

    private static String head(Method m) {
        StringBuilder text = new StringBuilder(m.getReturnType().getName()).append(' ').append(m.getName()).append('(');
        String between = "";
        for (Class<?> type : m.getParameterTypes()) {
            text.append(between).append(type.getName());
            between = ",";
        }
        return text.append(')').toString();
    }

    private static void methodsAreAsTold() {
        Set<String> open = new TreeSet<>();
        Set<String> names = new HashSet<>();
        for (Method m : RainOpera.class.getDeclaredMethods()) {
            if (!Modifier.isPrivate(m.getModifiers())) {
                open.add(head(m));
                names.add(m.getName());
                demand(!Modifier.isStatic(m.getModifiers()), head(m) + " is static");
            }
        }
        demand(open.equals(new TreeSet<>(Arrays.asList(HEADS))), "other methods than the document's: " + open);
        List<Class<?>> all = new ArrayList<>(Arrays.asList(RainOpera.class.getDeclaredClasses()));
        all.add(RainOpera.class);
        for (Class<?> c : all) {
            for (Method m : c.getDeclaredMethods()) {
                boolean isOwn = c == RainOpera.class && !Modifier.isPrivate(m.getModifiers());
                demand(isOwn || !names.contains(m.getName()), c + " has a method with a public one's name: " + m);
                demand(m.getParameterCount() <= 7, m + " takes more than seven parameters");
            }
        }
    }

    private static void fieldsAndClassesAreAsTold() {
        demand(Modifier.isFinal(RainOpera.class.getModifiers()), "the class is not final");
        Constructor<?>[] constructors = RainOpera.class.getDeclaredConstructors();
        demand(constructors.length == 1 && Modifier.isPublic(constructors[0].getModifiers())
                && constructors[0].getParameterCount() == 0, "other constructors than the document's");
        for (Field f : RainOpera.class.getDeclaredFields()) {
            boolean isTold = f.getName().equals("NONE");
            demand(isTold == !Modifier.isPrivate(f.getModifiers()), "a field that is open, or NONE that is not: " + f);
        }
        Class<?>[] inside = RainOpera.class.getDeclaredClasses();
        demand(inside.length <= 12, "more than twelve classes");
        for (Class<?> c : inside) {
            demand(Modifier.isStatic(c.getModifiers()), c + " is not static");
            demand(!Modifier.isPublic(c.getModifiers()), c + " is public");
            int fields = 0;
            for (Field f : c.getDeclaredFields()) {
                boolean isStatic = Modifier.isStatic(f.getModifiers());
                demand(!isStatic || Modifier.isFinal(f.getModifiers()), f + " is static and not final");
                fields += isStatic ? 0 : 1;
            }
            demand(fields <= 20, c + " has more than twenty fields");
        }
    }

    private static void sourceKeepsToTheLanguage() throws IOException {
        String source = Files.readString(Path.of("src/main/java/RainOpera.java"));
        String code = Pattern.compile("/\\*.*?\\*/|//[^\n]*", Pattern.DOTALL).matcher(source).replaceAll(" ");
        String[] words = {"throw", "throws", "try", "catch", "synchronized", "assert", "package", "native", "volatile",
            "toString", "hashCode", "Exact", "System\\.(?!arraycopy)", "->", "::", "\\bMap\\b", "\\bjava\\.(?!util\\.Arrays)"};
        for (String word : words) {
            Matcher found = Pattern.compile(Character.isLetter(word.charAt(0)) ? "\\b" + word + "\\b" : word).matcher(code);
            demand(!found.find(), "the source has " + word);
        }
        for (int i = 0; i < source.length(); i++) {
            demand(source.charAt(i) < 128, "a sign beyond 127 at " + i);
        }
        methodsAreShort(code);
    }

    private static void methodsAreShort(String code) {
        Pattern start = Pattern.compile("(?m)^( +)[\\w\\[\\] ]+\\([^;=]*\\) \\{$");
        String[] lines = code.split("\n", -1);
        for (int i = 0; i < lines.length; i++) {
            Matcher m = start.matcher(lines[i]);
            if (!m.matches() || lines[i].trim().matches("(if|for|while|switch|else).*")) {
                continue;
            }
            int end = i;
            while (end < lines.length && !lines[end].equals(m.group(1) + "}")) {
                end++;
            }
            demand(end - i <= 60, "more than sixty lines: " + lines[i].trim());
        }
    }
}

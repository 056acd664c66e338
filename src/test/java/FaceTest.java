import java.io.IOException;
import java.lang.reflect.Constructor;
import java.lang.reflect.Executable;
import java.lang.reflect.Field;
import java.lang.reflect.Method;
import java.lang.reflect.Modifier;
import java.nio.file.Files;
import java.nio.file.Path;
import java.util.ArrayList;
import java.util.Arrays;
import java.util.HashSet;
import java.util.List;
import java.util.Set;
import java.util.TreeSet;
import java.util.regex.Matcher;
import java.util.regex.Pattern;
import java.util.stream.Collectors;

/** The class's face against the document's code block, and what of LANGUAGE.md a text or a mirror can see. */
final class FaceTest {
    private static final Path SOURCE = Path.of("src/main/java/OsierHolt.java");
    private static final Path DOC = Path.of("../shared/DOC.md");

    public static void main(String[] args) throws IOException {
        Kit.part("the face");
        face();
        Kit.part("LANGUAGE.md");
        names();
        classesInside();
        words();
        Kit.close();
    }

    private static String squeeze(String text) {
        return text.replaceAll("\\s+", " ").trim();
    }

    /** The members of the document's code block, without the names of parameters. */
    private static Set<String> dueMembers() throws IOException {
        String doc = Files.readString(DOC);
        String block = doc.substring(doc.indexOf("public final class OsierHolt {"));
        block = block.substring(block.indexOf('{') + 1, block.indexOf("```"));
        Set<String> due = new TreeSet<>();
        for (String line : block.split("\n")) {
            String member = squeeze(line);
            if (member.endsWith(";")) {
                due.add(member.replaceAll(" = .*|;", "").replaceAll("(int|boolean) \\w+(?=[,)])", "$1"));
            }
        }
        return due;
    }

    private static String simple(Class<?>[] types) {
        return Arrays.stream(types).map(Class::getSimpleName).collect(Collectors.joining(", "));
    }

    private static String told(Executable member, String begin) {
        String thrown = simple(member.getExceptionTypes());
        return begin + "(" + simple(member.getParameterTypes()) + ")" + (thrown.isEmpty() ? "" : " throws " + thrown);
    }

    private static void face() throws IOException {
        Set<String> got = new TreeSet<>();
        for (Method method : OsierHolt.class.getDeclaredMethods()) {
            if (!Modifier.isPrivate(method.getModifiers()) && !method.isSynthetic()) {
                got.add(told(method, Modifier.toString(method.getModifiers()) + " " + method.getReturnType() + " " + method.getName()));
            }
        }
        for (Field field : OsierHolt.class.getDeclaredFields()) {
            if (!Modifier.isPrivate(field.getModifiers()) && !field.isSynthetic()) {
                got.add(Modifier.toString(field.getModifiers()) + " " + field.getType() + " " + field.getName());
            }
        }
        for (Constructor<?> constructor : OsierHolt.class.getDeclaredConstructors()) {
            got.add(told(constructor, Modifier.toString(constructor.getModifiers()) + " OsierHolt"));
        }
        Kit.is("members", got, dueMembers());
        Kit.is("final and public", OsierHolt.class.getModifiers(), Modifier.PUBLIC | Modifier.FINAL);
    }

    private static List<Class<?>> allClasses() {
        List<Class<?>> all = new ArrayList<>();
        all.add(OsierHolt.class);
        for (int i = 0; i < all.size(); i++) {
            all.addAll(List.of(all.get(i).getDeclaredClasses()));
        }
        return all;
    }

    private static void names() {
        Set<String> face = new HashSet<>();
        for (Method method : OsierHolt.class.getDeclaredMethods()) {
            if (Modifier.isPublic(method.getModifiers())) {
                face.add(method.getName());
            }
        }
        for (Class<?> one : allClasses()) {
            for (Method method : one.getDeclaredMethods()) {
                if (Modifier.isPrivate(method.getModifiers())) {
                    Kit.is(method + " bears the name of a public one", face.contains(method.getName()), false);
                }
                Kit.is(method + ": at most seven parameters", method.getParameterCount() <= 7, true);
                Kit.is(method + " is a lambda", method.getName().startsWith("lambda$"), false);
            }
        }
    }

    private static void classesInside() {
        Kit.is("at most some twelve classes", allClasses().size() <= 14, true);
        for (Class<?> one : allClasses()) {
            int fields = 0;
            for (Field field : one.getDeclaredFields()) {
                int modifiers = field.getModifiers();
                fields += Modifier.isStatic(modifiers) ? 0 : 1;
                Kit.is(field + ": static ones are final", !Modifier.isStatic(modifiers) || Modifier.isFinal(modifiers), true);
            }
            Kit.is(one + ": at most some twenty fields", fields <= 22, true);
            if (one != OsierHolt.class) {
                Kit.is(one + " is public or protected", (one.getModifiers() & (Modifier.PUBLIC | Modifier.PROTECTED)) != 0, false);
            }
        }
    }

    private static void words() throws IOException {
        String source = Files.readString(SOURCE).replaceAll("/\\*(?s:.*?)\\*/|//.*", "").replaceAll("\"[^\"]*\"", "\"\"");
        for (String word : List.of("::", "\\bfinally\\b", "\\bsynchronized\\b", "\\bassert\\b", "\\bpackage\\b", "\\bprotected\\b",
            "\\bimport (?!java\\.util\\.(NoSuchElementException|ArrayList|List|Arrays|Iterator);)", "Exact\\(", "\"\"\\s*\\+",
            "\\+\\s*\"\"", "\\bstatic \\{", "\\btry \\(", "\\bSystem\\.(?!arraycopy\\()", "\\bArrays\\.(?!(copyOf|copyOfRange|fill)\\()",
            "\\bcatch \\([^)]*\\b(Throwable|Error|Exception|ArrayIndexOutOfBoundsException|NullPointerException"
                + "|ClassCastException|NegativeArraySizeException|ArrayStoreException)\\b")) {
            Matcher matcher = Pattern.compile(word).matcher(source);
            Kit.is("the source holds " + word, matcher.find(), false);
        }
        for (String line : Files.readAllLines(SOURCE)) {
            for (char sign : line.toCharArray()) {
                if (sign > 126) {
                    Kit.is("a sign beyond 126 in " + line, true, false);
                }
            }
        }
    }
}

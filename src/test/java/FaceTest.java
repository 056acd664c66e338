import java.io.IOException;
import java.lang.reflect.Constructor;
import java.lang.reflect.Field;
import java.lang.reflect.Method;
import java.lang.reflect.Modifier;
import java.nio.file.Files;
import java.nio.file.Path;
import java.util.ArrayList;
import java.util.HashSet;
import java.util.List;
import java.util.Set;
import java.util.TreeSet;
import java.util.regex.Matcher;
import java.util.regex.Pattern;

/** The class's face against the document's code block, and what of LANGUAGE.md a text or a mirror can see. */
final class FaceTest {
    private static final Path SOURCE = Path.of("src/main/java/OsierHolt.java");
    private static final Path DOC = Path.of("../shared/DOC.md");

    public static void main(String[] args) throws IOException {
        Kit.part("the face");
        face();
        Kit.part("LANGUAGE.md");
        names();
        classesInside();
        words();
        Kit.close();
    }

    private static String squeeze(String text) {
        return text.replaceAll("\\s+", " ").trim();
    }

    private static void face() throws IOException {
        String doc = Files.readString(DOC);
        String block = doc.substring(doc.indexOf("public final class OsierHolt {"));
        block = block.substring(block.indexOf('{') + 1, block.indexOf("```"));
        String source = squeeze(Files.readString(SOURCE));
        Set<String> due = new TreeSet<>();
        for (String line : block.split("\n")) {
            String member = squeeze(line);
            if (member.endsWith(";")) {
                String bare = member.substring(0, member.length() - 1);
                Kit.is(bare, source.contains(member) || source.contains(bare + " {"), true);
                due.add(bare.replaceAll("\\(.*| =.*", "").replaceAll(".* ", ""));
            }
        }
        Set<String> got = new TreeSet<>();
        for (Method method : OsierHolt.class.getDeclaredMethods()) {
            if (!Modifier.isPrivate(method.getModifiers())) {
                Kit.is(method + " is public", Modifier.isPublic(method.getModifiers()), true);
                got.add(method.getName());
            }
        }
        for (Field field : OsierHolt.class.getDeclaredFields()) {
            if (!Modifier.isPrivate(field.getModifiers())) {
                got.add(field.getName());
            }
        }
        for (Constructor<?> constructor : OsierHolt.class.getDeclaredConstructors()) {
            got.add(constructor.getName());
        }
        Kit.is("members", got, due);
        Kit.is("final and public", OsierHolt.class.getModifiers(), Modifier.PUBLIC | Modifier.FINAL);
    }

    private static List<Class<?>> allClasses() {
        List<Class<?>> all = new ArrayList<>();
        all.add(OsierHolt.class);
        for (int i = 0; i < all.size(); i++) {
            all.addAll(List.of(all.get(i).getDeclaredClasses()));
        }
        return all;
    }

    private static void names() {
        Set<String> face = new HashSet<>();
        for (Method method : OsierHolt.class.getDeclaredMethods()) {
            if (Modifier.isPublic(method.getModifiers())) {
                face.add(method.getName());
            }
        }
        for (Class<?> one : allClasses()) {
            for (Method method : one.getDeclaredMethods()) {
                if (!Modifier.isPublic(method.getModifiers())) {
                    Kit.is(method + " bears the name of a public one", face.contains(method.getName()), false);
                }
                Kit.is(method + ": at most seven parameters", method.getParameterCount() <= 7, true);
            }
        }
    }

    private static void classesInside() {
        Kit.is("at most twelve classes", allClasses().size() <= 12, true);
        for (Class<?> one : allClasses()) {
            int fields = 0;
            for (Field field : one.getDeclaredFields()) {
                int modifiers = field.getModifiers();
                fields += Modifier.isStatic(modifiers) ? 0 : 1;
                Kit.is(field + ": static ones are final", !Modifier.isStatic(modifiers) || Modifier.isFinal(modifiers), true);
            }
            Kit.is(one + ": at most twenty fields", fields <= 20, true);
            if (one != OsierHolt.class) {
                Kit.is(one + " is static", Modifier.isStatic(one.getModifiers()), true);
                Kit.is(one + " is not public", Modifier.isPublic(one.getModifiers()), false);
            }
        }
    }

    private static void words() throws IOException {
        String source = Files.readString(SOURCE).replaceAll("/\\*(?s:.*?)\\*/|//.*", "").replaceAll("\"[^\"]*\"", "\"\"");
        for (String word : List.of("->", "::", "\\btry\\b", "\\bcatch\\b", "\\bfinally\\b", "\\bsynchronized\\b",
            "\\bassert\\b", "\\bpackage\\b", "\\bprotected\\b", "\\bimport (?!java\\.util\\.NoSuchElementException;)",
            "\\bvar\\b", "Exact\\b", "\"\"\\s*\\+", "\\+\\s*\"\"", "\\bdouble\\b", "\\bequals\\(Object", "\\bhashCode\\b",
            "\\btoString\\b", "\\bstatic \\{")) {
            Matcher matcher = Pattern.compile(word).matcher(source);
            Kit.is("the source holds " + word, matcher.find(), false);
        }
        // what is called with a dot, of the library
        Matcher library = Pattern.compile("\\b(Math|Integer|System|Arrays|Long|String|Character|Object)\\.(\\w+)").matcher(source);
        Set<String> allowed = Set.of("Math.max", "Math.min", "Integer.bitCount", "System.arraycopy");
        while (library.find()) {
            Kit.is(library.group() + " may be called", allowed.contains(library.group()), true);
        }
        for (String line : Files.readAllLines(SOURCE)) {
            for (char sign : line.toCharArray()) {
                if (sign > 126) {
                    Kit.is("a sign beyond 126 in " + line, true, false);
                }
            }
        }
    }
}

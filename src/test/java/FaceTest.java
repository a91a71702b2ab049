import java.io.IOException;
import java.lang.reflect.Constructor;
import java.lang.reflect.Field;
import java.lang.reflect.Method;
import java.lang.reflect.Modifier;
import java.nio.file.Files;
import java.nio.file.Path;
import java.util.ArrayList;
import java.util.Arrays;
import java.util.List;
import java.util.TreeSet;
import java.util.regex.Matcher;
import java.util.regex.Pattern;

/** The public face of the document, and what of LANGUAGE.md can be seen in the classes and in the source. */
public final class FaceTest {
    private static final Due T = new Due("FaceTest");
    private static final String FACE = "arrange3 away1 back0 bell0 content1 count1 dull1 fault0 forget0 hide1 hides1 keep0 "
        + "king2 lasts5 lay0 order2 pass1 person2 raise2 seen2 tastes2 thing2 undo0 wipe0 write1 year3";
    private static final Path SOURCE = Path.of("src/main/java/BoredKings.java");
    private static final List<Class<?>> STATIC_TYPES = List.of(int.class, long.class, boolean.class, char.class, String.class);

    public static void main(String[] args) throws IOException {
        face();
        members();
        classesInside();
        words();
        methodsAreShort();
        T.end();
    }

    private static void face() {
        TreeSet<String> face = new TreeSet<>();
        for (Method method : BoredKings.class.getDeclaredMethods()) {
            if (Modifier.isPublic(method.getModifiers())) {
                face.add(method.getName() + method.getParameterCount());
                T.due(method + " answers int", method.getReturnType() == int.class ? 1 : 0, 1);
                T.due(method + " is static", Modifier.isStatic(method.getModifiers()) ? 1 : 0, 0);
            }
        }
        T.same("the face", String.join(" ", face), FACE);
        TreeSet<String> constants = new TreeSet<>();
        for (Field field : BoredKings.class.getFields()) {
            constants.add(Modifier.toString(field.getModifiers()) + " " + field.getType() + " " + field.getName());
        }
        T.same("the constants", String.join(", ", constants), "public static final int BAD, public static final int FULL, "
            + "public static final int NO, public static final int NONE");
        T.same("the class", Modifier.toString(BoredKings.class.getModifiers()), "public final");
        Constructor<?>[] constructors = BoredKings.class.getDeclaredConstructors();
        T.due("constructors", constructors.length, 1);
        T.same("the constructor", constructors[0].toString(), "public BoredKings()");
    }

    private static void members() {
        List<String> open = new ArrayList<>();
        for (Method method : BoredKings.class.getDeclaredMethods()) {
            boolean isOfFace = (" " + FACE + " ").contains(" " + method.getName() + method.getParameterCount() + " ");
            boolean hasNameOfFace = FACE.matches("(.* )?" + method.getName() + "\\d.*");
            if (!isOfFace && (hasNameOfFace || !Modifier.isPrivate(method.getModifiers()))) {
                open.add(method.toString());
            }
        }
        for (Field field : BoredKings.class.getDeclaredFields()) {
            if (!Modifier.isPublic(field.getModifiers()) && !Modifier.isPrivate(field.getModifiers())) {
                open.add(field.toString());
            }
        }
        T.same("members that may not be", String.join(", ", open), "");
    }

    private static void classesInside() {
        Class<?>[] inside = BoredKings.class.getDeclaredClasses();
        T.due("no more than 12 classes", inside.length + 1 <= 12 ? 1 : 0, 1);
        List<Class<?>> all = new ArrayList<>(Arrays.asList(inside));
        all.add(BoredKings.class);
        for (Class<?> one : all) {
            boolean isInside = one != BoredKings.class;
            T.due(one + " is static", !isInside || Modifier.isStatic(one.getModifiers()) ? 1 : 0, 1);
            boolean isOpen = Modifier.isPublic(one.getModifiers()) || Modifier.isProtected(one.getModifiers());
            T.due(one + " is inside and seen from outside", isInside && isOpen ? 1 : 0, 0);
            int fields = 0;
            for (Field field : one.getDeclaredFields()) {
                boolean isStatic = Modifier.isStatic(field.getModifiers());
                fields += isStatic ? 0 : 1;
                T.due(field + " is final", !isStatic || Modifier.isFinal(field.getModifiers()) ? 1 : 0, 1);
                T.due(field + " may be static", !isStatic || STATIC_TYPES.contains(field.getType()) ? 1 : 0, 1);
            }
            T.due("fields of " + one + " are 20 at most", fields <= 20 ? 1 : 0, 1);
            for (Method method : one.getDeclaredMethods()) {
                T.due(method + " takes 7 at most", method.getParameterCount() <= 7 ? 1 : 0, 1);
                boolean isNamedAsFace = one != BoredKings.class && FACE.matches("(.* )?" + method.getName() + "\\d.*");
                T.due(method + " bears a name of the face", isNamedAsFace ? 1 : 0, 0);
            }
        }
    }

    private static String codeOf(String source) {
        return source.replaceAll("(?s)/\\*.*?\\*/", "").replaceAll("//.*", "").replaceAll("\"[^\"]*\"", "\"\"");
    }

    private static void words() throws IOException {
        String code = codeOf(Files.readString(SOURCE));
        String[] refused = {"\\bthrows?\\b", "\\btry\\b", "\\bcatch\\b", "\\bfinally\\b", "\\bsynchronized\\b", "\\bassert\\b",
            "->", "::", "\\bpackage\\b", "\\bThread\\b", "\\bRandom\\b", "\\bSystem\\.(?!arraycopy\\b)", "Exact\\b",
            "\\bequals\\b", "\\bhashCode\\b", "\\btoString\\b", "\\bdouble\\b", "\\bfloat\\b", "\\bvar\\b", "\\bprotected\\b",
            "\\bstatic\\s*\\{", "\\[\\]\\[\\]\\[\\]", "@"};
        for (String word : refused) {
            Matcher found = Pattern.compile(word).matcher(code);
            T.due("found " + word, found.find() ? 1 : 0, 0);
        }
        Matcher imports = Pattern.compile("import ([^;]*);").matcher(code);
        while (imports.find()) {
            T.same("import", imports.group(1), "java.util.Arrays");
        }
    }

    /** A method begins at the line of its brace, some 4 or 8 signs in, and ends where its brace is closed so far in. */
    private static void methodsAreShort() throws IOException {
        List<String> lines = Files.readAllLines(SOURCE);
        int begun = -1;
        int methods = 0;
        for (int i = 0; i < lines.size(); i++) {
            String line = lines.get(i);
            if (line.matches("( {4}| {8})\\w.*\\) \\{") && !line.matches(" {8}(if|for|while|switch) .*")) {
                begun = i;
                methods++;
            }
            if (line.matches(" {4}\\}| {8}\\}") && begun >= 0 && line.indexOf('}') == lines.get(begun).length()
                - lines.get(begun).stripLeading().length()) {
                T.due("lines of " + lines.get(begun) + " are 60 at most", i - begun + 1 <= 60 ? 1 : 0, 1);
                begun = -1;
            }
            T.due("line " + (i + 1) + " is short", line.length() <= 130 ? 1 : 0, 1);
        }
        T.due("methods were found", methods > 60 ? 1 : 0, 1);
    }
}

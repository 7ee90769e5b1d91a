import java.io.IOException;
import java.lang.reflect.Constructor;
import java.lang.reflect.Field;
import java.lang.reflect.Method;
import java.lang.reflect.Modifier;
import java.nio.file.Files;
import java.nio.file.Path;
import java.util.Arrays;
import java.util.List;
import java.util.Set;
import java.util.TreeSet;
import java.util.regex.Matcher;
import java.util.regex.Pattern;
import java.util.stream.Collectors;
import java.util.stream.Stream;

/** The class shows the document's face and nothing else; its text keeps what a search can tell of LANGUAGE.md. */
public final class FaceTest {
    private static final Path SOURCE = Path.of("src/main/java/MixedPredict.java");
    private static final String INDEX = " IndexOutOfBoundsException";
    private static final String ARGUMENT = " IllegalArgumentException";
    private static final String UNSUPPORTED = " UnsupportedOperationException";
    private static final Set<String> FACE = new TreeSet<>(List.of(
            "boolean put(int,int,int,int)" + INDEX + ARGUMENT,
            "int paint(int,int)",
            "int at(int,int,int)" + INDEX,
            "int predicted(int,int,int,int)" + INDEX,
            "int encode()",
            "int byteAt(int)" + INDEX,
            "boolean plain(int)" + INDEX,
            "int weight(int)" + INDEX,
            "int chance(boolean,int,int,int)" + INDEX + ARGUMENT,
            "int share(int)" + INDEX,
            "int feed(int)" + ARGUMENT + UNSUPPORTED,
            "int pass()" + UNSUPPORTED,
            "int poke(int,int)" + INDEX + ARGUMENT,
            "int decode()",
            "int told(int)",
            "void clear()"));
    private static final String[] RULED_OUT = {"\\bpackage\\b", "\\bcatch\\b", "\\btry\\b", "\\bfinally\\b", "->", "::",
        "@", "\\bsynchronized\\b", "\\bassert\\b", "\\w+Exact\\b", "\\bvolatile\\b", "\\bSystem\\.(?!arraycopy)",
        "\\bThread\\b", "\\bRandom\\b", "\\bnative\\b", "static \\{"};
    private static final Set<String> OTHERS_TYPES = Set.of("Arrays", "Math", "IndexOutOfBoundsException",
            "IllegalArgumentException", "UnsupportedOperationException");
    private static final Set<String> OTHERS_METHODS = Set.of("Arrays.fill", "Math.abs", "Math.max", "Math.min");
    private static final int LONGEST_METHOD = 60;
    private static final int MOST_CLASSES = 12;
    private static final int MOST_FIELDS = 20;
    private static final int MOST_PARAMETERS = 7;

    private static int wrong = 0;

    public static void main(String[] args) throws IOException {
        face();
        for (Class<?> inside : MixedPredict.class.getDeclaredClasses()) {
            due(inside.getSimpleName() + " is static, and not public", (inside.getModifiers()
                    & (Modifier.STATIC | Modifier.PUBLIC | Modifier.PROTECTED)) == Modifier.STATIC);
            members(inside);
        }
        members(MixedPredict.class);
        due("classes", MixedPredict.class.getDeclaredClasses().length < MOST_CLASSES);
        text(Files.readString(SOURCE));
        System.out.println(wrong == 0 ? "FaceTest: all as due" : "FaceTest: " + wrong + " not as due");
        if (wrong != 0) {
            System.exit(1);
        }
    }

    private static void face() {
        Class<?> type = MixedPredict.class;
        due("public and final", Modifier.isPublic(type.getModifiers()) && Modifier.isFinal(type.getModifiers()));
        Set<String> shown = new TreeSet<>();
        for (Method method : type.getDeclaredMethods()) {
            if (Modifier.isPrivate(method.getModifiers())) {
                due(method.getName() + " is no public method's name",
                        FACE.stream().noneMatch(f -> f.contains(" " + method.getName() + "(")));
            } else if (!method.isSynthetic()) {
                due(method.getName() + " is public, not static",
                        Modifier.isPublic(method.getModifiers()) && !Modifier.isStatic(method.getModifiers()));
                shown.add(signature(method));
            }
        }
        due("the methods: " + shown, shown.equals(FACE));
        Constructor<?>[] constructors = type.getDeclaredConstructors();
        Class<?>[] sizes = {int.class, int.class, int.class, int.class};
        due("one constructor", constructors.length == 1 && Modifier.isPublic(constructors[0].getModifiers())
                && Arrays.equals(constructors[0].getParameterTypes(), sizes));
        for (Field field : type.getDeclaredFields()) {
            boolean shownField = !Modifier.isPrivate(field.getModifiers());
            due("field " + field.getName(), field.getName().equals("NONE") == shownField);
        }
    }

    private static String signature(Method method) {
        return method.getReturnType().getSimpleName() + " " + method.getName() + "("
                + Stream.of(method.getParameterTypes()).map(Class::getSimpleName).collect(Collectors.joining(",")) + ")"
                + Stream.of(method.getExceptionTypes()).map(e -> " " + e.getSimpleName()).collect(Collectors.joining());
    }

    private static void members(Class<?> type) {
        int fields = 0;
        for (Field field : type.getDeclaredFields()) {
            if (Modifier.isStatic(field.getModifiers())) {
                due("static field " + field.getName() + " is final", Modifier.isFinal(field.getModifiers()));
            } else {
                fields++;
            }
        }
        due(type.getSimpleName() + " has " + fields + " fields", fields <= MOST_FIELDS);
        for (Method method : type.getDeclaredMethods()) {
            due(method + " has few parameters", method.getParameterCount() <= MOST_PARAMETERS);
        }
    }

    private static void text(String source) {
        String code = source.replaceAll("(?s)/\\*.*?\\*/", "").replaceAll("//[^\n]*", "");
        String bare = code.replaceAll("\"[^\"\n]*\"", "\"\"");
        for (String ruledOut : RULED_OUT) {
            due("ruled out: " + ruledOut, !Pattern.compile(ruledOut).matcher(bare).find());
        }
        Matcher imports = Pattern.compile("import ([^;]*);").matcher(bare);
        while (imports.find()) {
            due("import " + imports.group(1), imports.group(1).equals("java.util.Arrays"));
        }
        library(bare);
        due("signs 1 to 127", source.chars().allMatch(c -> c > 0 && c < 128));
        int begin = 0;
        String[] lines = source.split("\n");
        for (int i = 0; i < lines.length; i++) {
            if (lines[i].matches(" {4,8}\\S.*\\{")) {
                begin = i;
            }
            if (lines[i].matches(" {4,8}}") && !lines[begin].contains(" class ")) {
                due("the method at line " + (begin + 1) + " is short", i - begin < LONGEST_METHOD);
            }
        }
    }

    private static void library(String bare) {
        Set<String> own = Stream.of(MixedPredict.class.getDeclaredClasses()).map(Class::getSimpleName)
                .collect(Collectors.toCollection(TreeSet::new));
        own.add("MixedPredict");
        // A name of a type has a small letter, a constant's has none.
        Matcher types = Pattern.compile("\\b[A-Z]\\w*[a-z]\\w*").matcher(bare);
        while (types.find()) {
            due("type " + types.group(), own.contains(types.group()) || OTHERS_TYPES.contains(types.group()));
        }
        Matcher methods = Pattern.compile("\\b(Arrays|Math)\\.\\w+").matcher(bare);
        while (methods.find()) {
            due("method " + methods.group(), OTHERS_METHODS.contains(methods.group()));
        }
    }

    private static void due(String what, boolean holds) {
        if (!holds) {
            wrong++;
            System.out.println("does not hold: " + what);
        }
    }
}

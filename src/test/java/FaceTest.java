import java.io.IOException;
import java.lang.reflect.Constructor;
import java.lang.reflect.Executable;
import java.lang.reflect.Field;
import java.lang.reflect.Method;
import java.lang.reflect.Modifier;
import java.nio.file.Files;
import java.nio.file.Path;
import java.util.ArrayList;
import java.util.Arrays;
import java.util.List;
import java.util.TreeSet;
import java.util.regex.Matcher;
import java.util.regex.Pattern;
import java.util.stream.Collectors;

/** The class has the document's face and no other, and keeps to rules of the language that a text search can tell. */
public final class FaceTest {
    private static final Path DOCUMENT = Path.of("../shared/DOC.md");
    private static final Path SOURCE = Path.of("src/main/java/Suffixshelf.java");

    public static void main(String[] args) throws IOException {
        Script script = new Script("FaceTest");
        String source = Files.readString(SOURCE);
        script.expect("the face", documented().toString(), declared().toString());
        script.expect("what else is seen", "[]", seen().toString());
        script.expect("private methods named as public ones", "[]", namedTwice().toString());
        script.expect("words that the rules leave out", "[]", leftOut(source).toString());
        script.expect("what is more than the rules leave", "[]", tooMany().toString());
        script.expect("methods of more than sixty lines", "[]", longMethods(source).toString());
        script.expect("signs above 126", "0", String.valueOf(source.chars().filter(sign -> sign > 126).count()));
        script.end();
    }

    private static TreeSet<String> documented() throws IOException {
        TreeSet<String> face = new TreeSet<>();
        for (String line : Files.readAllLines(DOCUMENT)) {
            if (line.startsWith("    public ")) {
                face.add(line.strip().replaceAll("(int|char) \\w+(?=[,)])", "$1"));
            }
        }
        return face;
    }

    private static TreeSet<String> declared() {
        TreeSet<String> face = new TreeSet<>();
        for (Constructor<?> constructor : Suffixshelf.class.getConstructors()) {
            face.add("public Suffixshelf" + parameters(constructor));
        }
        for (Method method : Suffixshelf.class.getDeclaredMethods()) {
            if (Modifier.isPublic(method.getModifiers())) {
                face.add("public " + method.getReturnType() + " " + method.getName() + parameters(method));
            }
        }
        return face;
    }

    private static String parameters(Executable call) {
        return "(" + names(call.getParameterTypes()) + ")"
                + (call.getExceptionTypes().length > 0 ? " throws " + names(call.getExceptionTypes()) : "") + ";";
    }

    private static String names(Class<?>[] types) {
        return Arrays.stream(types).map(Class::getSimpleName).collect(Collectors.joining(", "));
    }

    private static List<String> seen() {
        List<String> found = new ArrayList<>();
        for (Field field : Suffixshelf.class.getDeclaredFields()) {
            if (!Modifier.isPrivate(field.getModifiers())) {
                found.add(field.getName());
            }
        }
        for (Method method : Suffixshelf.class.getDeclaredMethods()) {
            if (!Modifier.isPrivate(method.getModifiers()) && !Modifier.isPublic(method.getModifiers())) {
                found.add(method.getName());
            }
        }
        for (Class<?> inside : Suffixshelf.class.getDeclaredClasses()) {
            if (Modifier.isPublic(inside.getModifiers()) || !Modifier.isStatic(inside.getModifiers())) {
                found.add(inside.getSimpleName());
            }
        }
        int kind = Suffixshelf.class.getModifiers();
        if (!Modifier.isPublic(kind) || !Modifier.isFinal(kind)) {
            found.add("a class that is not public and final");
        }
        return found;
    }

    private static List<String> namedTwice() {
        TreeSet<String> open = new TreeSet<>();
        for (Method method : Suffixshelf.class.getMethods()) {
            open.add(method.getName());
        }
        List<String> found = new ArrayList<>();
        for (Class<?> inside : classes()) {
            for (Method method : inside.getDeclaredMethods()) {
                if (!Modifier.isPublic(method.getModifiers()) && open.contains(method.getName())) {
                    found.add(method.getName());
                }
            }
        }
        return found;
    }

    private static List<Class<?>> classes() {
        List<Class<?>> classes = new ArrayList<>(List.of(Suffixshelf.class.getDeclaredClasses()));
        classes.add(Suffixshelf.class);
        return classes;
    }

    /** Rules 5 and 11: classes, fields, parameters, and static fields that are not final. */
    private static List<String> tooMany() {
        List<String> found = new ArrayList<>();
        if (classes().size() > 12) {
            found.add("classes");
        }
        for (Class<?> inside : classes()) {
            int fields = 0;
            for (Field field : inside.getDeclaredFields()) {
                fields += Modifier.isStatic(field.getModifiers()) ? 0 : 1;
                if (Modifier.isStatic(field.getModifiers()) && !Modifier.isFinal(field.getModifiers())) {
                    found.add(field.getName());
                }
            }
            if (fields > 20) {
                found.add("fields of " + inside.getSimpleName());
            }
            for (Method method : inside.getDeclaredMethods()) {
                if (method.getParameterCount() > 7 && !method.getName().equals("typeMore")) {
                    found.add("parameters of " + method.getName());
                }
            }
        }
        return found;
    }

    /** A method ends where a bracket closes as far in as its first line stands. */
    private static List<String> longMethods(String source) {
        List<String> found = new ArrayList<>();
        String[] lines = source.split("\n");
        for (String margin : List.of("    ", "        ")) {
            int first = 0;
            for (int i = 0; i < lines.length; i++) {
                boolean isClosed = lines[i].equals(margin + "}");
                if (isClosed && i - first >= 60 && !lines[first].contains(" class ")) {
                    found.add(lines[first].strip());
                }
                if (lines[i].startsWith(margin) && !lines[i].startsWith(margin + " ")) {
                    first = i;
                }
            }
        }
        return found;
    }

    private static List<String> leftOut(String source) {
        String code = source.replaceAll("(?s)/\\*.*?\\*/", "").replaceAll("//.*", "");
        Pattern refused = Pattern.compile("\\b(finally|assert|synchronized|package|protected|volatile)\\b"
                + "|\\b(getMessage|hashCode)\\b|::|->|\" *\\+|\\+ *\""
                + "|import (?!java\\.util\\.(NoSuchElementException|ArrayList|List|Arrays|Iterator);).*|Exact\\("
                + "|throw (?!new (IllegalState|IllegalArgument|IndexOutOfBounds|Arithmetic|UnsupportedOperation"
                + "|NoSuchElement|Runtime)Exception\\((\"[^\"]*\")?\\);).*");
        List<String> found = new ArrayList<>();
        Matcher matcher = refused.matcher(code);
        while (matcher.find()) {
            found.add(matcher.group());
        }
        return found;
    }
}

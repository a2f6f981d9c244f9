import java.io.IOException;
import java.lang.reflect.Constructor;
import java.lang.reflect.Field;
import java.lang.reflect.Method;
import java.lang.reflect.Modifier;
import java.nio.file.Files;
import java.nio.file.Path;
import java.util.List;
import java.util.Set;
import java.util.TreeSet;

/** The document's public face and nothing beside it; and what of LANGUAGE.md can be seen by looking for words. */
public final class FaceTest {
    private static final List<String> NEVER = List.of("->", "::", "catch", "finally", "synchronized", "assert ",
        "static {", "protected ", "volatile", "Thread", "System.", "Random", "Scanner", "hashCode", "toString",
        "Exact(", "double", "float", "Object ", ".equals(", "var ", "Comparator", "HashMap");

    public static void main(String[] args) throws IOException {
        Path root = Path.of(args.length > 0 ? args[0] : ".");
        Path shared = Path.of(args.length > 1 ? args[1] : "../shared");
        faceIs(Files.readString(shared.resolve("DOC.md")));
        noneBeside();
        words(Files.readString(root.resolve("src/main/java/LivesAhead.java")));
        Check.end("FaceTest");
    }

    /** Every line of the document's face that tells a method is there, and no other public method is. */
    private static void faceIs(String document) {
        Set<String> want = new TreeSet<>();
        String face = document.substring(document.indexOf("public final class LivesAhead {"));
        face = face.substring(0, face.indexOf("```"));
        for (String line : face.split("\n")) {
            String told = line.trim();
            if (told.startsWith("public ") && told.contains("(") && !told.startsWith("public LivesAhead(")) {
                want.add(told.substring(7, told.length() - 1).replaceAll("(int|boolean) \\w+([,)])", "$1$2")
                    .replace(" throws NoSuchElementException", ""));
            }
        }
        Set<String> got = new TreeSet<>();
        for (Method m : LivesAhead.class.getDeclaredMethods()) {
            if (Modifier.isPublic(m.getModifiers())) {
                StringBuilder b = new StringBuilder(m.getReturnType() + " " + m.getName() + "(");
                for (Class<?> type : m.getParameterTypes()) {
                    b.append(b.charAt(b.length() - 1) == '(' ? "" : ", ").append(type);
                }
                got.add(b.append(")").toString());
                Check.due(m + " is no static one", Modifier.isStatic(m.getModifiers()), false);
            }
        }
        Check.due("methods told", want.size(), 49);
        Check.due("the face", got.toString(), want.toString());
    }

    private static void noneBeside() {
        Class<?> face = LivesAhead.class;
        Check.due("public", Modifier.isPublic(face.getModifiers()), true);
        Check.due("final", Modifier.isFinal(face.getModifiers()), true);
        Check.due("NONE", LivesAhead.NONE, -1);
        Set<String> open = new TreeSet<>();
        for (Method m : face.getDeclaredMethods()) {
            if (Modifier.isPublic(m.getModifiers())) {
                open.add(m.getName());
            }
        }
        for (Method m : face.getDeclaredMethods()) {
            if (!Modifier.isPublic(m.getModifiers())) {
                Check.due(m + " is private", Modifier.isPrivate(m.getModifiers()), true);
                Check.due(m + " bears no public name", open.contains(m.getName()), false);
            }
        }
        for (Field f : face.getDeclaredFields()) {
            Check.due(f + " is private", Modifier.isPrivate(f.getModifiers()), !f.getName().equals("NONE"));
        }
        Constructor<?>[] all = face.getDeclaredConstructors();
        Check.due("constructors", all.length, 1);
        Check.due("without arguments", all[0].getParameterCount(), 0);
        Check.due("classes inside", face.getDeclaredClasses().length <= 11, true);
        for (Class<?> inside : face.getDeclaredClasses()) {
            Check.due(inside + " is private", Modifier.isPrivate(inside.getModifiers()), true);
            Check.due(inside + " is static", Modifier.isStatic(inside.getModifiers()), true);
            int fields = 0;
            for (Field f : inside.getDeclaredFields()) {
                Check.due(f + " if static is final", Modifier.isStatic(f.getModifiers())
                    && !Modifier.isFinal(f.getModifiers()), false);
                fields += Modifier.isStatic(f.getModifiers()) ? 0 : 1;
            }
            Check.due(inside + " has few fields", fields <= 20, true);
            for (Method m : inside.getDeclaredMethods()) {
                Check.due(m + " bears no public name", open.contains(m.getName()), false);
                Check.due(m + " takes few", m.getParameterCount() <= 7, true);
            }
        }
    }

    /** The document says what stands ahead of which calls. */
    private static void parts(String source) {
        int at = 0;
        for (String told : List.of("---- people and facts", "int writer(", "int apart(", "---- paragraphs", "int feed(",
            "int cutLong(", "---- deaths", "int rule(", "int tell(", "---- pictures, quotes, editions", "int picture(",
            "int said(", "---- weeks", "int week(", "int trouble(")) {
            int next = source.indexOf(told, at);
            Check.due("'" + told + "' stands behind the one ahead of it", next > at, true);
            at = Math.max(at, next);
        }
    }

    private static void words(String source) {
        for (String never : NEVER) {
            Check.due("the program has '" + never + "'", source.contains(never), false);
        }
        StringBuilder imports = new StringBuilder();
        for (String line : source.split("\n")) {
            if (line.startsWith("import ")) {
                imports.append(line.substring(7));
            }
        }
        Check.due("imports", imports.toString(),
            "java.util.ArrayList;java.util.Arrays;java.util.NoSuchElementException;");
        parts(source);
        for (int i = 0; i < source.length(); i++) {
            if (source.charAt(i) > 126) {
                Check.due("a sign beyond 126 at " + i, source.charAt(i), 126);
            }
        }
    }
}

import java.io.IOException;
import java.lang.reflect.Constructor;
import java.lang.reflect.Field;
import java.lang.reflect.Method;
import java.lang.reflect.Modifier;
import java.nio.file.Files;
import java.nio.file.Path;
import java.util.Set;
import java.util.TreeSet;

/** The public face is the document's, and the file keeps to what LANGUAGE.md leaves. */
public final class FaceTest {
    private static final Due due = new Due();
    private static final Set<String> METHODS = Set.of(
        "int parish(int,int,boolean,int)", "int neighbours(int,int,boolean)", "int weather(int,int)", "int creed(int)",
        "int say(int)", "int wipe()", "int fault()", "int judge(int)", "int done()", "int behind(int,int)",
        "int then(int)", "int agrees(int)", "int soon(int,int)", "int agenda(int,int)", "int can(int,int)",
        "int ways(int,int)", "int seen(int,boolean)", "int forget()", "int stuck(int)", "int ask(int)",
        "int drops(int,int)", "long everywhere(int,int,int,int)", "int year(int,int,int)", "int image(int)",
        "int restore(int)", "int told(int)");

    public static void main(String[] args) throws IOException {
        constants();
        methods();
        text();
        limits();
        due.end();
    }

    private static void constants() {
        due.is("NONE", StuckVanes.NONE, -6);
        due.is("UNKNOWN", StuckVanes.UNKNOWN, -1);
        due.is("OUTSIDE", StuckVanes.OUTSIDE, -2);
        due.is("STATE", StuckVanes.STATE, -3);
        due.is("FULL", StuckVanes.FULL, -4);
        due.is("NO", StuckVanes.NO, -5);
        due.is("LOST", StuckVanes.LOST, -1000000000000000000L);
    }

    private static void methods() {
        due.is("public and final", StuckVanes.class.getModifiers(), Modifier.PUBLIC | Modifier.FINAL);
        Set<String> names = new TreeSet<>();
        Set<String> faceNames = new TreeSet<>();
        for (Method method : StuckVanes.class.getDeclaredMethods()) {
            if (!Modifier.isPrivate(method.getModifiers()) && !method.isSynthetic()) {
                StringBuilder types = new StringBuilder();
                for (Class<?> type : method.getParameterTypes()) {
                    types.append(types.length() == 0 ? "" : ",").append(type.getName());
                }
                names.add(method.getReturnType().getName() + " " + method.getName() + "(" + types + ")");
                faceNames.add(method.getName());
            }
        }
        due.is("methods of the face " + names, names.equals(METHODS) ? 1 : 0, 1);
        int openFields = 0;
        for (Field field : StuckVanes.class.getDeclaredFields()) {
            openFields += Modifier.isPrivate(field.getModifiers()) ? 0 : 1;
        }
        due.is("constants of the face", openFields, 7);
        int constructors = 0;
        for (Constructor<?> constructor : StuckVanes.class.getDeclaredConstructors()) {
            constructors += constructor.getParameterCount() == 0 && Modifier.isPublic(constructor.getModifiers()) ? 1 : 10;
        }
        due.is("constructors", constructors, 1);
        for (Class<?> inner : StuckVanes.class.getDeclaredClasses()) {
            due.is("static " + inner.getName(), Modifier.isStatic(inner.getModifiers()) ? 1 : 0, 1);
            for (Method method : inner.getDeclaredMethods()) {
                due.is("a name of the face: " + method.getName(), faceNames.contains(method.getName()) ? 1 : 0, 0);
            }
        }
    }

    private static void text() throws IOException {
        String source = Files.readString(Path.of("src/main/java/StuckVanes.java"));
        String[] ruledOut = {"import ", "package ", "try ", "catch", "throw", "->", "::", "synchronized", "assert",
            "instanceof", "System.", "Random", "Thread", "Exact(", "String"};
        for (String word : ruledOut) {
            due.is("ruled out: " + word, source.contains(word) ? 1 : 0, 0);
        }
        String[] lines = source.split("\n");
        for (int at = 0; at < lines.length; at++) {
            due.is("width of " + lines[at], lines[at].length() > 120 ? 1 : 0, 0);
            due.is("made by a call: " + lines[at], isMadeByCall(lines[at]) ? 1 : 0, 0);
            if (lines[at].matches("( {4}| {8})((public|private|static|boolean|int|long|void) )+\\w+\\(.*\\) \\{")) {
                due.is("too long: " + lines[at], linesFrom(lines, at) > 60 ? 1 : 0, 0);
            }
        }
    }

    /** The room counts all that is ever made, so an object makes what it needs with its own fields. */
    private static boolean isMadeByCall(String line) {
        return line.matches(".*\\bnew \\w+[\\[(].*") && !line.matches(" +private final .*");
    }

    private static int linesFrom(String[] lines, int start) {
        String end = lines[start].replaceAll("\\S.*", "}");
        int at = start;
        while (at < lines.length && !lines[at].equals(end)) {
            at++;
        }
        return at - start + 1;
    }

    /** Rules 5 and 11: static fields are final; how many classes, fields and parameters there may be. */
    private static void limits() {
        Class<?>[] inner = StuckVanes.class.getDeclaredClasses();
        due.is("no more than 12 classes", Math.max(inner.length + 1, 12), 12);
        limitsOf(StuckVanes.class);
        for (Class<?> one : inner) {
            limitsOf(one);
        }
    }

    private static void limitsOf(Class<?> one) {
        int fields = 0;
        for (Field field : one.getDeclaredFields()) {
            if (Modifier.isStatic(field.getModifiers())) {
                due.is("final " + field, field.getModifiers() & Modifier.FINAL, Modifier.FINAL);
            } else {
                fields++;
            }
        }
        due.is("no more than 20 fields in " + one, Math.max(fields, 20), 20);
        for (Method method : one.getDeclaredMethods()) {
            due.is("no more than 7 parameters of " + method, Math.max(method.getParameterCount(), 7), 7);
        }
    }
}

import java.io.IOException;
import java.lang.reflect.Method;
import java.lang.reflect.Modifier;
import java.nio.file.Files;
import java.nio.file.Path;

/** README.md's example answers as it says there, and every call of the face stands in it. */
public final class ReadmeTest {
    private static final Due due = new Due();

    public static void main(String[] args) throws IOException {
        String readme = Files.readString(Path.of("README.md"));
        example(readme);
        for (Method method : StuckVanes.class.getDeclaredMethods()) {
            if (Modifier.isPublic(method.getModifiers())) {
                due.is("tells of " + method, readme.contains("`" + method.getName() + "(") ? 1 : 0, 1);
            }
        }
        for (String name : new String[] {"NONE", "UNKNOWN", "OUTSIDE", "STATE", "FULL", "NO", "LOST"}) {
            due.is("tells of " + name, readme.contains("`" + name) ? 1 : 0, 1);
        }
        due.is("tells how tests are run", readme.contains(".ci/run") ? 1 : 0, 1);
        due.end();
    }

    private static void example(String readme) {
        StuckVanes x = new StuckVanes();
        line(readme, "x.parish(0, 0, false, 0);", x.parish(0, 0, false, 0), "1");
        for (char sign : "A*w2..v2".toCharArray()) {
            x.say(sign);
        }
        due.is("the text", readme.contains("for (char sign : \"A*w2..v2\".toCharArray()) {") ? 1 : 0, 1);
        line(readme, "x.judge(0);", x.judge(0), "NONE");
        line(readme, "x.behind(0, 0);", x.behind(0, 0), "2");
        line(readme, "x.done();", x.done(), "5");
        line(readme, "x.told(2);", x.told(2), "4");
        line(readme, "x.everywhere(2, 0, 1, 0);", x.everywhere(2, 0, 1, 0), "3");
        line(readme, "x.everywhere(2, 0, 1, 1);", x.everywhere(2, 0, 1, 1), "1");
    }

    /** The call stands on a line of its own with what it answers behind it. */
    private static void line(String readme, String call, long got, String told) {
        due.is(call, got, told.equals("NONE") ? StuckVanes.NONE : Long.parseLong(told));
        int at = readme.indexOf("\n" + call);
        String rest = at < 0 ? "" : readme.substring(at + 1 + call.length()).stripLeading();
        due.is(call + " in README.md", rest.startsWith("// " + told + ":") ? 1 : 0, 1);
    }
}

import java.io.IOException;
import java.lang.reflect.Method;
import java.lang.reflect.Modifier;
import java.nio.file.Files;
import java.nio.file.Path;
import java.util.ArrayList;
import java.util.List;

/** README.md: its example answers what it says, and it names every call. */
public final class ReadmeTest {
    private static final Check CHECK = new Check();

    private final String text;
    /** The calls of the example with what they answer, in the form in which they stand in README.md. */
    private final List<String> asked = new ArrayList<>();

    private ReadmeTest(String text) {
        this.text = text;
    }

    public static void main(String[] args) throws IOException {
        ReadmeTest test = new ReadmeTest(Files.readString(Path.of("README.md")));
        test.example();
        test.everyCallIsNamed();
        CHECK.end();
    }

    private void example() {
        CHECK.part("example");
        DamageView view = new DamageView(20, 12);
        int ok = view.box(1, 0);
        ask("int ok = view.box(1, 0)", ok);
        ask("view.constrain(4 * ok, 0, 2, 0, 0)", view.constrain(4 * ok, 0, 2, 0, 0));
        ask("view.constrain(4 * ok + 1, 4 * ok, 6, 0, 1)", view.constrain(4 * ok + 1, 4 * ok, 6, 0, 1));
        ask("view.constrain(4 * ok + 3, 4 * ok + 2, 3, 1, 1)", view.constrain(4 * ok + 3, 4 * ok + 2, 3, 1, 1));
        ask("view.paint()", view.paint());
        ask("view.press(3, 1)", view.press(3, 1));
        ask("view.damage()", view.damage());
        ask("view.release(3, 1)", view.release(3, 1));
        ask("view.count(ok)", view.count(ok));
        ask("view.paint()", view.paint());
        ask("view.pixel(3, 1)", view.pixel(3, 1));
        CHECK.due("the example is " + asked, asked.equals(written()), true);
    }

    private void ask(String call, int answer) {
        asked.add(call + " " + answer);
    }

    /** The lines of the example that ask a call, without what is said after the answer. */
    private List<String> written() {
        List<String> calls = new ArrayList<>();
        String example = text.substring(text.indexOf("```java"));
        for (String line : example.substring(0, example.indexOf("```", 3)).split("\n")) {
            if (line.contains("view.")) {
                calls.add(line.replaceFirst("; *// (-?\\d+).*", " $1"));
            }
        }
        return calls;
    }

    private void everyCallIsNamed() {
        CHECK.part("calls");
        String table = text.substring(text.indexOf("The calls:"), text.indexOf("## How it works"));
        for (Method method : DamageView.class.getDeclaredMethods()) {
            if (Modifier.isPublic(method.getModifiers())) {
                CHECK.due(method.getName() + " is named", table.contains("`" + method.getName() + "`"), true);
            }
        }
    }
}

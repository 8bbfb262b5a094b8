import java.io.IOException;
import java.lang.management.ManagementFactory;
import java.lang.reflect.Constructor;
import java.lang.reflect.Field;
import java.lang.reflect.Method;
import java.lang.reflect.Modifier;
import java.nio.file.Files;
import java.nio.file.Path;
import java.util.Arrays;
import java.util.Set;
import java.util.TreeSet;
import java.util.regex.Matcher;
import java.util.regex.Pattern;

/** The public face of the document, rules of LANGUAGE.md that can be seen from outside, and calls without end. */
public final class LanguageTest {
    private static final Path SOURCE = Path.of("src/main/java/DamageView.java");
    private static final String FACE = "int attention() int box(int, int) int constrain(int, int, int, int, int)"
            + " int count(int) int damage() int error(int) int hit(int, int) int key() int paint()"
            + " int pixel(int, int) int place(int) int press(int, int) int release(int, int) int step(boolean)"
            + " boolean hide(int, boolean) boolean raise(int) boolean remove(int) boolean resize(int, int)"
            + " boolean suggest(int, int)";
    private static final Check CHECK = new Check();

    public static void main(String[] args) throws IOException {
        face();
        membersAreHidden();
        privateNamesDiffer();
        nestedClasses();
        excludedWords();
        importsAreListed();
        roomOfARun();
        farBeyondTheLastCall();
        CHECK.end();
    }

    private static void face() {
        CHECK.part("face");
        int modifiers = DamageView.class.getModifiers();
        CHECK.due("public final", Modifier.isPublic(modifiers) && Modifier.isFinal(modifiers), true);
        Set<String> found = new TreeSet<>();
        for (Method method : DamageView.class.getDeclaredMethods()) {
            if (Modifier.isPublic(method.getModifiers())) {
                String types = Arrays.toString(method.getParameterTypes()).replace("[", "(").replace("]", ")");
                found.add(method.getReturnType() + " " + method.getName() + types);
            }
        }
        Set<String> due = new TreeSet<>(Arrays.asList(FACE.split("(?<=\\)) ")));
        CHECK.due("the methods " + found, found.equals(due), true);
        Constructor<?>[] constructors = DamageView.class.getDeclaredConstructors();
        CHECK.due("constructors", constructors.length, 1);
        CHECK.due("constructor", Modifier.isPublic(constructors[0].getModifiers())
                && Arrays.equals(constructors[0].getParameterTypes(), new Class<?>[] {int.class, int.class}), true);
    }

    private static void membersAreHidden() {
        CHECK.part("rule 1");
        for (Field field : DamageView.class.getDeclaredFields()) {
            CHECK.due("private " + field.getName(), Modifier.isPrivate(field.getModifiers()), true);
        }
        for (Method method : DamageView.class.getDeclaredMethods()) {
            int modifiers = method.getModifiers();
            boolean hidden = Modifier.isPrivate(modifiers) || Modifier.isPublic(modifiers) || method.isSynthetic();
            CHECK.due("private " + method.getName(), hidden, true);
        }
    }

    private static void privateNamesDiffer() {
        CHECK.part("rule 1, names");
        Set<String> face = new TreeSet<>();
        for (String method : FACE.split("(?<=\\)) ")) {
            face.add(method.substring(method.indexOf(' ') + 1, method.indexOf('(')));
        }
        for (Method method : DamageView.class.getDeclaredMethods()) {
            if (!Modifier.isPublic(method.getModifiers())) {
                CHECK.due(method.getName(), face.contains(method.getName()), false);
            }
        }
        for (Class<?> nested : DamageView.class.getDeclaredClasses()) {
            for (Method method : nested.getDeclaredMethods()) {
                CHECK.due(nested.getSimpleName() + "." + method.getName(), face.contains(method.getName()), false);
            }
        }
    }

    private static void nestedClasses() {
        CHECK.part("rules 1, 2, 5 and 11");
        Class<?>[] nested = DamageView.class.getDeclaredClasses();
        CHECK.due("classes, at most eleven inside", nested.length <= 11, true);
        for (Class<?> inside : nested) {
            int modifiers = inside.getModifiers();
            CHECK.due(inside.getName() + " is static", Modifier.isStatic(modifiers), true);
            CHECK.due(inside.getName() + " is public", Modifier.isPublic(modifiers), false);
            for (Field field : inside.getDeclaredFields()) {
                boolean fine = !Modifier.isStatic(field.getModifiers()) || Modifier.isFinal(field.getModifiers());
                CHECK.due(inside.getName() + "." + field.getName(), fine, true);
            }
        }
    }

    private static void excludedWords() throws IOException {
        CHECK.part("rules 2, 4, 6 and 13");
        String code = Files.readString(SOURCE).replaceAll("(?s)/\\*.*?\\*/", "").replaceAll("//.*", "");
        String words = "\\b(throws?|try|catch|finally|synchronized|assert|package|protected|hashCode|toString"
                + "|Random|Thread|System\\.(in|out|err|exit|nanoTime|currentTimeMillis|getenv)|\\w+Exact)\\b|->|::";
        Matcher matcher = Pattern.compile(words).matcher(code);
        while (matcher.find()) {
            CHECK.due("the word " + matcher.group(), true, false);
        }
        for (int i = 0; i < code.length(); i++) {
            CHECK.due("character " + i + " is plain", code.charAt(i) < 128, true);
        }
    }

    private static void importsAreListed() throws IOException {
        CHECK.part("rule 4");
        Set<String> listed = Set.of("java.util.Arrays", "java.util.ArrayList", "java.util.List", "java.util.Iterator");
        for (String line : Files.readAllLines(SOURCE)) {
            if (line.startsWith("import ")) {
                String name = line.substring(7, line.indexOf(';'));
                CHECK.due(line, listed.contains(name), true);
            }
        }
    }

    private static void roomOfARun() {
        CHECK.part("room");
        com.sun.management.ThreadMXBean threads =
                (com.sun.management.ThreadMXBean) ManagementFactory.getThreadMXBean();
        DamageView view = fullView();
        runDearestCalls(view, 450);
        long before = threads.getCurrentThreadAllocatedBytes();
        view = fullView();
        runDearestCalls(view, 450);
        long bytes = threads.getCurrentThreadAllocatedBytes() - before;
        CHECK.due("a run takes " + bytes + " bytes, at most 60000", bytes <= 60000, true);
    }

    private static DamageView fullView() {
        DamageView view = new DamageView(24, 16);
        for (int box = 1; box < 6; box++) {
            view.box(2, box - 1);
            Check.spread(view, box, box, 24 - box, box, 16 - box);
        }
        for (int number = 0; number < 15; number++) {
            view.constrain(4 + number, number, 1, 1, number % 4);
        }
        return view;
    }

    private static void runDearestCalls(DamageView view, int calls) {
        for (int call = 0; call < calls; call++) {
            switch (call % 4) {
                case 0 -> view.constrain(4, 0, call % 20, 1, 3);
                case 1 -> view.paint();
                case 2 -> view.remove(15);
                default -> view.resize(1 + call % 24, 1 + call % 16);
            }
        }
    }

    /** What these calls answer is free; rule 7 still asks that each of them comes to an end. */
    private static void farBeyondTheLastCall() {
        DamageView view = fullView();
        for (int call = 0; call < 100000; call++) {
            view.constrain(5, 4, 99, 1, 3);
            view.suggest(8 + call % 16, call % 2 == 0 ? 99 : -99);
            view.remove(call % 16);
            view.step(call % 3 == 0);
            view.key();
        }
    }
}

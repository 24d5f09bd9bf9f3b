import java.io.IOException;
import java.lang.reflect.Method;
import java.lang.reflect.Modifier;
import java.nio.file.Files;
import java.nio.file.Path;
import java.util.Set;
import java.util.TreeSet;
import java.util.regex.Matcher;
import java.util.regex.Pattern;

/**
 * The calls in the README's Java blocks, each made in its turn and held against the answer that its comment begins
 * with. It is run in the project's folder, as .ci/run does.
 */
public final class ViewKeeperReadme {
    private static final String NEW_OBJECT = "ViewKeeper k = new ViewKeeper();";
    private static final Pattern CALL = Pattern.compile("k\\.(\\w+)\\(([^)]*)\\);\\s*// (-?\\w+)(:.*)?");

    private static final Set<String> called = new TreeSet<>();
    private static int wrong = 0;
    private static int asked = 0;

    private static void fault(String what) {
        wrong++;
        System.out.println("README.md: " + what);
    }

    private static Method methodOfFace(String name, int parameters) {
        for (Method method : ViewKeeper.class.getDeclaredMethods()) {
            boolean shown = Modifier.isPublic(method.getModifiers());
            if (shown && method.getName().equals(name) && method.getParameterCount() == parameters) return method;
        }
        return null;
    }

    private static Object[] arguments(String text) {
        String[] words = text.isBlank() ? new String[0] : text.split(",");
        Object[] found = new Object[words.length];
        for (int i = 0; i < words.length; i++) {
            String word = words[i].trim();
            if (word.equals("true") || word.equals("false")) found[i] = Boolean.valueOf(word);
            else found[i] = Integer.valueOf(word);
        }
        return found;
    }

    /** The answer as a text, with the document's names for refusals. */
    private static String named(Object answer) {
        if (answer.equals(ViewKeeper.BAD)) return "BAD";
        if (answer.equals(ViewKeeper.FULL)) return "FULL";
        if (answer.equals(ViewKeeper.CYCLE)) return "CYCLE";
        return answer.toString();
    }

    private static void call(ViewKeeper k, String line) throws ReflectiveOperationException {
        Matcher parts = CALL.matcher(line);
        if (k == null || !parts.matches()) {
            fault("no call with an answer: " + line);
            return;
        }
        Object[] arguments = arguments(parts.group(2));
        Method method = methodOfFace(parts.group(1), arguments.length);
        if (method == null) {
            fault("no call of the face: " + line);
            return;
        }
        asked++;
        called.add(method.getName());
        String answer = named(method.invoke(k, arguments));
        if (!answer.equals(parts.group(3))) fault(line + " -- answered " + answer);
    }

    private static void followJavaBlocks() throws IOException, ReflectiveOperationException {
        ViewKeeper k = null;
        boolean inBlock = false;
        for (String line : Files.readAllLines(Path.of("README.md"))) {
            if (line.startsWith("```")) {
                inBlock = line.equals("```java");
            } else if (inBlock && line.equals(NEW_OBJECT)) {
                k = new ViewKeeper();
            } else if (inBlock) {
                call(k, line);
            }
        }
    }

    public static void main(String[] args) throws IOException, ReflectiveOperationException {
        followJavaBlocks();
        for (Method method : ViewKeeper.class.getDeclaredMethods()) {
            boolean shown = Modifier.isPublic(method.getModifiers());
            if (shown && !called.contains(method.getName())) fault("does not show " + method.getName());
        }
        System.out.println(wrong == 0 ? "all " + asked + " answers are as the README says" : wrong + " faults");
        if (wrong != 0) System.exit(1);
    }
}

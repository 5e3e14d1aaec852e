import java.lang.reflect.Method;
import java.nio.file.Files;
import java.nio.file.Path;
import java.util.HashSet;
import java.util.LinkedHashMap;
import java.util.Map;
import java.util.Set;
import java.util.regex.Matcher;
import java.util.regex.Pattern;

/** README.md says what the class does: its examples are called, and no call of the face is left out. */
public final class ReadmeTest {
    private static final Pattern BLOCK = Pattern.compile("(?ms)^```java\\n(.*?)^```$");
    private static final Pattern NEW = Pattern.compile("LivingDays x = new LivingDays\\(\\);");
    private static final Pattern ROW = Pattern.compile("x\\.(\\w+)\\(([^()]*)\\); +// (-?\\d+|true|false)(?:: .+)?");
    private static final Pattern FACE = Pattern.compile("(?m)^    public (?:int|boolean) (\\w+)\\(([^)]*)\\);");
    private static final Checks CHECKS = new Checks("ReadmeTest");

    private final Map<String, Method> methods = new LinkedHashMap<>();
    private final Set<String> shown = new HashSet<>();

    private ReadmeTest() {
        for (Method method : LivingDays.class.getDeclaredMethods()) {
            if (java.lang.reflect.Modifier.isPublic(method.getModifiers())) {
                methods.put(method.getName(), method);
            }
        }
    }

    public static void main(String[] args) throws Exception {
        Path root = Path.of(args.length > 0 ? args[0] : ".");
        String readme = Files.readString(root.resolve("README.md"));
        ReadmeTest test = new ReadmeTest();
        Matcher block = BLOCK.matcher(readme);
        while (block.find()) {
            test.play(block.group(1));
        }
        test.face(Files.readString(root.resolve("../shared/DOC.md")), readme);
        CHECKS.end();
    }

    /** An example begins with a new object; each further row is a call with its answer. */
    private void play(String example) throws Exception {
        LivingDays x = null;
        for (String line : example.split("\n")) {
            Matcher row = ROW.matcher(line);
            if (NEW.matcher(line).matches()) {
                x = new LivingDays();
            } else if (x != null && row.matches() && methods.containsKey(row.group(1))) {
                shown.add(row.group(1));
                Object answer = methods.get(row.group(1)).invoke(x, arguments(row.group(2)));
                boolean isDue = row.group(3).equals(answer.toString());
                CHECKS.due("that the example's answer stands, " + answer + ", in: " + line, isDue, true);
            } else {
                CHECKS.fault("no row of an example: " + line);
            }
        }
    }

    private static Object[] arguments(String text) {
        String[] parts = text.isEmpty() ? new String[0] : text.split(", ");
        Object[] values = new Object[parts.length];
        for (int k = 0; k < parts.length; k++) {
            boolean isTruth = parts[k].equals("true") || parts[k].equals("false");
            values[k] = isTruth ? (Object) Boolean.valueOf(parts[k]) : (Object) number(parts[k]);
        }
        return values;
    }

    private static int number(String text) {
        return text.equals("LivingDays.NONE") ? LivingDays.NONE : Long.decode(text).intValue();
    }

    private void face(String document, String readme) {
        Matcher call = FACE.matcher(document);
        int calls = 0;
        while (call.find()) {
            calls++;
            String entry = "| `" + call.group(1) + "(" + call.group(2).replaceAll("(int|boolean) ", "") + ")` | ";
            CHECKS.due("README.md has a row " + entry, readme.contains(entry), true);
            CHECKS.due("README.md has an example of " + call.group(1), shown.contains(call.group(1)), true);
        }
        CHECKS.due("calls of the document's face", calls, 59);
    }
}

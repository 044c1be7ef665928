import java.io.IOException;
import java.lang.reflect.Method;
import java.lang.reflect.Modifier;
import java.nio.charset.StandardCharsets;
import java.nio.file.Files;
import java.nio.file.Path;
import java.util.Map;
import java.util.Set;
import java.util.TreeMap;
import java.util.TreeSet;
import java.util.regex.Matcher;
import java.util.regex.Pattern;

/** The examples of README.md are one run of calls: each answers what stands behind it. */
public final class ReadmeTest {
    private static final Pattern BLOCK = Pattern.compile("(?s)```java\n(.*?)```");
    private static final Pattern MADE = Pattern.compile("EstateSlopes slopes = new EstateSlopes\\(\\);");
    private static final Pattern TYPED = Pattern.compile(
            "for \\(char letter : \"([^\"]*)\"\\.toCharArray\\(\\)\\) slopes\\.write\\(letter\\);");
    private static final Pattern ASKED = Pattern.compile(
            "slopes\\.(\\w+)\\(([^)]*)\\); +// (-?\\d+|[A-Z]+)(:.*)?");
    private static final Map<String, Integer> NAMED = Map.of("BAD", EstateSlopes.BAD, "NO", EstateSlopes.NO,
            "FULL", EstateSlopes.FULL, "NONE", EstateSlopes.NONE);

    private final Check check = new Check();
    private final Map<String, Method> methods = new TreeMap<>();
    private final Set<String> shown = new TreeSet<>();
    private EstateSlopes slopes = null;

    public static void main(String[] args) throws Exception {
        new ReadmeTest().play(Path.of(System.getProperty("readme", "README.md")));
    }

    private ReadmeTest() {
        for (Method method : EstateSlopes.class.getDeclaredMethods()) {
            if (Modifier.isPublic(method.getModifiers())) {
                methods.put(method.getName(), method);
            }
        }
    }

    private void play(Path page) throws IOException, ReflectiveOperationException {
        String text = Files.readString(page, StandardCharsets.UTF_8);
        for (Matcher block = BLOCK.matcher(text); block.find();) {
            for (String line : block.group(1).split("\n")) {
                playLine(line);
            }
        }
        check.due("methods in the examples", shown.toString(), methods.keySet().toString());
        for (Map.Entry<String, Integer> name : NAMED.entrySet()) {
            String row = "| `" + name.getKey() + "` | " + name.getValue() + " |";
            check.holds("README.md has a row that begins " + row, text.contains("\n" + row));
        }
        check.close("ReadmeTest");
    }

    private void playLine(String line) throws ReflectiveOperationException {
        Matcher typed = TYPED.matcher(line);
        Matcher asked = ASKED.matcher(line);
        if (MADE.matcher(line).matches()) {
            slopes = new EstateSlopes();
        } else if (typed.matches()) {
            Slopes.type(slopes, typed.group(1));
        } else if (asked.matches() && methods.containsKey(asked.group(1))) {
            ask(line, asked);
        } else {
            check.holds("an example that can be played: " + line, false);
        }
    }

    private void ask(String line, Matcher asked) throws ReflectiveOperationException {
        String[] told = asked.group(2).isEmpty() ? new String[0] : asked.group(2).split(", ");
        Object[] numbers = new Object[told.length];
        for (int i = 0; i < told.length; i++) {
            numbers[i] = told[i].startsWith("'") ? (int) told[i].charAt(1) : Integer.parseInt(told[i]);
        }
        shown.add(asked.group(1));
        int got = (Integer) methods.get(asked.group(1)).invoke(slopes, numbers);
        Integer named = NAMED.get(asked.group(3));
        check.due(line, got, named != null ? named : Integer.parseInt(asked.group(3)));
    }
}

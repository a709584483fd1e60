import java.io.IOException;
import java.lang.reflect.Method;
import java.lang.reflect.Modifier;
import java.nio.file.Files;
import java.nio.file.Path;
import java.util.ArrayList;
import java.util.Arrays;
import java.util.HashMap;
import java.util.List;
import java.util.Map;
import java.util.TreeSet;
import java.util.regex.Matcher;
import java.util.regex.Pattern;

/** What README.md says of the class is so: run from the project's folder. */
public final class ReadmeTest {
    private static final Pattern EXAMPLE =
            Pattern.compile("(?:int (\\w+) = )?x\\.(\\w+)\\((.*?)\\); +// (true|false|-?\\d+)(:.*)?");
    private static final Pattern ROW =
            Pattern.compile("\\| `(\\w+)\\((.*?)\\)` \\| .+ \\| (`\\S+`|never) \\|");
    private static final int TRIES = 5;
    private static final Due DUE = new Due();

    public static void main(String[] args) throws ReflectiveOperationException, IOException {
        List<String> lines = Files.readAllLines(Path.of("README.md"));
        example(lines);
        calls(lines);
        DUE.end();
    }

    /** Each line of the example answers what stands behind it. */
    private static void example(List<String> lines) throws ReflectiveOperationException {
        NewCoins x = new NewCoins();
        Map<String, Integer> names = new HashMap<>(Map.of("NewCoins.NONE", NewCoins.NONE));
        int start = lines.indexOf("NewCoins x = new NewCoins();");
        DUE.is("README.md has an example", true, start > 0);
        for (int i = start + 1; i < lines.size() && !lines.get(i).equals("```"); i++) {
            Matcher m = EXAMPLE.matcher(lines.get(i));
            if (m.matches()) {
                long got = ask(x, m.group(2), numbers(m.group(3), names));
                DUE.is(lines.get(i), number(m.group(4)), got);
                names.put(String.valueOf(m.group(1)), (int) got);
            } else {
                DUE.is("a line that is no call: " + lines.get(i), true, lines.get(i).isEmpty());
            }
        }
    }

    /** The table has each call of the class once, and what it answers where there is none. */
    private static void calls(List<String> lines) throws ReflectiveOperationException {
        List<String> told = new ArrayList<>();
        for (String line : lines) {
            Matcher m = ROW.matcher(line);
            if (m.matches()) {
                int parameters = m.group(2).isEmpty() ? 0 : m.group(2).split(", ").length;
                told.add(m.group(1) + " " + parameters);
                if (!m.group(3).equals("never")) {
                    none(m.group(1), parameters, m.group(3).replace("`", ""));
                }
            }
        }
        TreeSet<String> there = new TreeSet<>();
        for (Method method : NewCoins.class.getDeclaredMethods()) {
            if (Modifier.isPublic(method.getModifiers())) {
                there.add(method.getName() + " " + method.getParameterCount());
            }
        }
        DUE.is("rows of the table", there.size(), told.size());
        DUE.is("the table's calls are those of the class", true, there.equals(new TreeSet<>(told)));
    }

    /** Tried often, as a call without parameters is refused only when there are too many. */
    private static void none(String call, int parameters, String want)
            throws ReflectiveOperationException {
        NewCoins x = new NewCoins();
        int[] far = new int[parameters];
        Arrays.fill(far, Integer.MIN_VALUE);
        long got = 0;
        for (int i = 0; i < TRIES; i++) {
            got = ask(x, call, far);
        }
        DUE.is(call + " where there is none", number(want), got);
    }

    private static int[] numbers(String text, Map<String, Integer> names) {
        String[] words = text.isEmpty() ? new String[0] : text.split(", ");
        int[] numbers = new int[words.length];
        for (int i = 0; i < words.length; i++) {
            Integer named = names.get(words[i]);
            numbers[i] = named != null ? named : Integer.parseInt(words[i]);
        }
        return numbers;
    }

    private static long number(String text) {
        return switch (text) {
            case "true" -> 1;
            case "false" -> 0;
            case "NONE" -> NewCoins.NONE;
            default -> Long.parseLong(text);
        };
    }

    private static long ask(NewCoins x, String call, int[] numbers)
            throws ReflectiveOperationException {
        Class<?>[] types = new Class<?>[numbers.length];
        Object[] given = new Object[numbers.length];
        for (int i = 0; i < numbers.length; i++) {
            types[i] = int.class;
            given[i] = numbers[i];
        }
        Object answer = NewCoins.class.getMethod(call, types).invoke(x, given);
        if (answer instanceof Boolean yes) {
            return yes ? 1 : 0;
        }
        return ((Number) answer).longValue();
    }
}

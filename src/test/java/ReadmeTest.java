import java.io.IOException;
import java.lang.reflect.InvocationTargetException;
import java.lang.reflect.Method;
import java.lang.reflect.Modifier;
import java.nio.file.Files;
import java.nio.file.Path;
import java.util.ArrayList;
import java.util.Arrays;
import java.util.HashSet;
import java.util.List;
import java.util.Set;
import java.util.regex.Matcher;
import java.util.regex.Pattern;

/** What README.md says: its run of calls is made and its answers are those due, and its table is the face. */
public final class ReadmeTest {
    private static final Pattern BLOCK = Pattern.compile("(?s)```java\n(.*?)```");
    private static final Pattern LIST = Pattern.compile("(?s)```text\n(.*?)```");
    /** A call with the answer behind it, or with the exception that it throws, and perhaps with a word about it. */
    private static final Pattern CALL = Pattern.compile(
            "land\\.(\\w+)\\(([^()]*)\\); *// (throws \\w+|-?[0-9.]+)(:.*)?");
    private static final Pattern ROW = Pattern.compile("(?m)^\\| `(\\w+)\\(([^()]*)\\)` \\| ([^|]+) \\| ([^|]+) \\|$");
    private static final Pattern EXCEPTION = Pattern.compile("`(\\w+Exception)`");
    private static final Pattern TEXT = Pattern.compile(": \"(.{20})\"");

    private static final Due DUE = new Due();

    private ReadmeTest() {
    }

    public static void main(String[] args) throws IOException {
        String readme = Files.readString(Path.of("README.md"));
        list(readme);
        Set<String> called = example(readme);
        table(readme, called);
        DUE.end("ReadmeTest");
    }

    private static List<Method> face() {
        List<Method> methods = new ArrayList<>(Arrays.asList(TavernRumours.class.getDeclaredMethods()));
        methods.removeIf(method -> !Modifier.isPublic(method.getModifiers()));
        return methods;
    }

    private static void list(String readme) {
        Matcher list = LIST.matcher(readme);
        String text = list.find() ? list.group(1) : "no list";
        TavernRumours land = new TavernRumours();
        DUE.is("README.md, teach of its list", () -> Due.teach(land, text), 0);
        DUE.is("README.md, orders of its list", () -> land.count(4), 3);
    }

    /** Makes the calls of the only block of Java, on one object; returns the names of those called. */
    private static Set<String> example(String readme) {
        Set<String> called = new HashSet<>();
        Matcher block = BLOCK.matcher(readme);
        if (!block.find()) {
            DUE.tell("README.md has no run of calls");
            return called;
        }
        TavernRumours land = null;
        for (String line : block.group(1).split("\n")) {
            Matcher call = CALL.matcher(line);
            if (line.equals("TavernRumours land = new TavernRumours();")) {
                land = new TavernRumours();
            } else if (land != null && call.matches()) {
                called.add(call.group(1));
                make(land, line, call);
            } else if (!line.isBlank() && !line.startsWith("//")) {
                DUE.tell("README.md, no call with its answer: " + line);
            }
        }
        if (block.find()) {
            DUE.tell("README.md has a second block of Java, which no test reads");
        }
        return called;
    }

    private static void make(TavernRumours land, String line, Matcher call) {
        List<Integer> numbers = new ArrayList<>();
        for (String number : call.group(2).split(", *")) {
            if (!number.isEmpty()) {
                numbers.add(Integer.decode(number));
            }
        }
        String answer = answer(land, call.group(1), numbers.toArray());
        DUE.is("README.md: " + line + " answers " + answer, () -> answer.equals(call.group(3)) ? 1 : 0, 1);
        Matcher text = TEXT.matcher(line);
        if (text.find()) {
            DUE.is("README.md, the bytes fed: " + line, () -> bytesOf(numbers).equals(text.group(1)) ? 1 : 0, 1);
        }
    }

    private static String bytesOf(List<Integer> numbers) {
        StringBuilder bytes = new StringBuilder();
        for (int number : numbers) {
            for (int shift = 24; shift >= 0; shift -= 8) {
                bytes.append((char) (number >> shift & 255));
            }
        }
        return bytes.toString();
    }

    private static String answer(TavernRumours land, String name, Object[] numbers) {
        for (Method method : face()) {
            if (method.getName().equals(name) && method.getParameterCount() == numbers.length) {
                try {
                    return method.invoke(land, numbers).toString();
                } catch (InvocationTargetException thrown) {
                    return "throws " + thrown.getCause().getClass().getSimpleName();
                } catch (IllegalAccessException impossible) {
                    throw new IllegalStateException(impossible);
                }
            }
        }
        return "no such call";
    }

    /** Each public method has one row, with just its exceptions in their order, and is called in the run. */
    private static void table(String readme, Set<String> called) {
        for (Method method : face()) {
            String name = method.getName();
            List<String> refused = new ArrayList<>();
            int rows = 0;
            Matcher row = ROW.matcher(readme);
            while (row.find()) {
                if (row.group(1).equals(name)) {
                    rows++;
                    int numbers = row.group(2).isEmpty() ? 0 : row.group(2).split(", ").length;
                    DUE.is("README.md, numbers of " + name, () -> numbers, method.getParameterCount());
                    EXCEPTION.matcher(row.group(4)).results().forEach(found -> refused.add(found.group(1)));
                    if (refused.isEmpty() && !row.group(4).equals("nothing")) {
                        DUE.tell("README.md, what " + name + " refuses: " + row.group(4));
                    }
                }
            }
            int found = rows;
            DUE.is("README.md, rows of " + name, () -> found, 1);
            List<String> declared = new ArrayList<>();
            for (Class<?> exception : method.getExceptionTypes()) {
                declared.add(exception.getSimpleName());
            }
            DUE.is("README.md, " + name + " refuses with " + refused, () -> refused.equals(declared) ? 1 : 0, 1);
            DUE.is("README.md, " + name + " in its run of calls", () -> called.contains(name) ? 1 : 0, 1);
        }
    }
}

import java.io.IOException;
import java.lang.reflect.Field;
import java.lang.reflect.Method;
import java.lang.reflect.Modifier;
import java.nio.file.Files;
import java.nio.file.Path;
import java.util.HashSet;
import java.util.Set;
import java.util.regex.Matcher;
import java.util.regex.Pattern;

/** README.md: its example answers as it says, and its tables tell every call and every error code. */
public final class ReadmeTest {
    private static final Due DUE = new Due("ReadmeTest");
    private static final Pattern CALL = Pattern.compile("(?m)^sheet\\.(\\w+)\\(([^)]*)\\); +// (-?[0-9]+): ");
    private static final Pattern ROW = Pattern.compile("(?m)^\\| `(\\w+)\\(([a-z, ]*)\\)` \\|");

    public static void main(String[] args) throws IOException, ReflectiveOperationException {
        String readme = Files.readString(Path.of("README.md"));
        example(readme);
        calls(readme);
        codes(readme);
        DUE.end();
    }

    private static void example(String readme) throws ReflectiveOperationException {
        SheetMarks sheet = new SheetMarks();
        int found = 0;
        for (Matcher call = CALL.matcher(readme); call.find(); found++) {
            Object answer = answer(sheet, call.group(1), numbers(call.group(2)));
            DUE.is(call.group().trim(), (Integer) answer, Long.parseLong(call.group(3)));
        }
        int lines = readme.split("(?m)^sheet\\.").length - 1;
        DUE.is("calls of the example with an answer", found, lines);
        DUE.is("there is an example", found > 0 ? 1 : 0, 1);
    }

    private static String[] numbers(String list) {
        return list.isEmpty() ? new String[0] : list.split(", *");
    }

    private static Object answer(SheetMarks sheet, String name, String[] numbers) throws ReflectiveOperationException {
        for (Method method : SheetMarks.class.getDeclaredMethods()) {
            if (method.getName().equals(name) && Modifier.isPublic(method.getModifiers())) {
                Object[] given = new Object[numbers.length];
                for (int i = 0; i < given.length; i++) {
                    long number = Long.decode(numbers[i].replace("L", ""));
                    if (method.getParameterTypes()[i] == long.class) {
                        given[i] = number;
                    } else {
                        given[i] = (int) number;
                    }
                }
                return method.invoke(sheet, given);
            }
        }
        throw new NoSuchMethodException(name);
    }

    private static void calls(String readme) {
        Set<String> told = new HashSet<>();
        for (Matcher row = ROW.matcher(readme); row.find();) {
            DUE.is(row.group(1) + " is told once", told.add(row.group(1) + "/" + numbers(row.group(2)).length) ? 1 : 0, 1);
        }
        int calls = 0;
        for (Method method : SheetMarks.class.getDeclaredMethods()) {
            if (Modifier.isPublic(method.getModifiers())) {
                calls++;
                String name = method.getName() + "/" + method.getParameterCount();
                DUE.is(name + " is told", told.contains(name) ? 1 : 0, 1);
            }
        }
        DUE.is("calls told", told.size(), calls);
        DUE.is("the 512 calls are told", readme.contains("at most 512 calls") ? 1 : 0, 1);
    }

    private static void codes(String readme) throws IllegalAccessException {
        for (Field field : SheetMarks.class.getDeclaredFields()) {
            if (Modifier.isPublic(field.getModifiers()) && field.getInt(null) < 0) {
                String row = "| `" + field.getName() + "` | " + field.getInt(null) + " |";
                DUE.is(row, readme.contains(row) ? 1 : 0, 1);
            }
        }
    }
}

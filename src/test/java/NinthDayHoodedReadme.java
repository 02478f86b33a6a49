import java.io.IOException;
import java.lang.reflect.InvocationTargetException;
import java.lang.reflect.Method;
import java.lang.reflect.Modifier;
import java.nio.charset.StandardCharsets;
import java.nio.file.Files;
import java.nio.file.Path;
import java.util.List;
import java.util.regex.Matcher;
import java.util.regex.Pattern;

/** What README.md tells: each call of its example answers as it says there, and it names each call of the face. */
public final class NinthDayHoodedReadme {
    private static final Path README = Path.of("README.md");
    private static final String MADE = "NinthDayHooded x = new NinthDayHooded();";
    private static final Pattern CALL = Pattern.compile("x\\.(\\w+)\\(([^)]*)\\);\\s+// ([^:]+).*");

    private static int wrong = 0;

    public static void main(String[] args) throws IOException, IllegalAccessException {
        List<String> lines = Files.readAllLines(README, StandardCharsets.UTF_8);
        int calls = example(lines);
        tell(calls > 0, "the example has no calls");
        names(String.join("\n", lines));
        System.out.println(wrong == 0 ? calls + " calls of the example answer as README.md says" : wrong + " faults of README.md");
        if (wrong != 0) {
            System.exit(1);
        }
    }

    private static void tell(boolean holds, String fault) {
        if (!holds) {
            wrong++;
            System.out.println(fault);
        }
    }

    private static int example(List<String> lines) throws IllegalAccessException {
        NinthDayHooded x = new NinthDayHooded();
        boolean inside = false;
        int calls = 0;
        for (String line : lines) {
            if (line.startsWith("```")) {
                inside = line.equals("```java");
            } else if (inside && !line.isBlank() && !line.equals(MADE)) {
                Matcher m = CALL.matcher(line);
                if (m.matches()) {
                    String got = answer(x, m.group(1), m.group(2));
                    tell(got.equals(due(m.group(3))), line + " answered " + got);
                    calls++;
                } else {
                    tell(false, "no call with its answer: " + line);
                }
            }
        }
        return calls;
    }

    private static String due(String said) {
        return said.equals("NONE") ? String.valueOf(NinthDayHooded.NONE) : said;
    }

    private static String answer(NinthDayHooded x, String name, String told) throws IllegalAccessException {
        String[] parts = told.isEmpty() ? new String[0] : told.split(", ");
        Object[] args = new Object[parts.length];
        for (int i = 0; i < parts.length; i++) {
            args[i] = Integer.decode(parts[i]);
        }
        for (Method m : NinthDayHooded.class.getDeclaredMethods()) {
            if (Modifier.isPublic(m.getModifiers()) && m.getName().equals(name) && m.getParameterCount() == args.length) {
                try {
                    return String.valueOf(m.invoke(x, args));
                } catch (InvocationTargetException e) {
                    return "throws " + e.getCause().getClass().getSimpleName();
                }
            }
        }
        return "no such call";
    }

    private static void names(String text) {
        for (Method m : NinthDayHooded.class.getDeclaredMethods()) {
            if (Modifier.isPublic(m.getModifiers())) {
                tell(text.contains("`" + m.getName() + "`"), "README.md does not name " + m.getName());
            }
        }
    }
}

import java.io.IOException;
import java.lang.reflect.Field;
import java.lang.reflect.Method;
import java.lang.reflect.Modifier;
import java.nio.charset.StandardCharsets;
import java.nio.file.Files;
import java.nio.file.Path;
import java.util.regex.Matcher;
import java.util.regex.Pattern;

/** README.md tells how to use the class: its calls must answer as it says, and it must name the whole face. */
public final class ReadmeTest {
    private static final Pattern CALL = Pattern.compile("house\\.(\\w+)\\(([^)]*)\\); *// (-?\\d+).*");
    private static int wrong = 0;

    private static void must(boolean holds, String what) {
        if (!holds) {
            wrong++;
            System.out.println("broken: " + what);
        }
    }

    private static String block(String page, String kind) {
        int start = page.indexOf("```" + kind + "\n") + kind.length() + 4;
        return page.substring(start, page.indexOf("```", start));
    }

    private static int answer(PittanceHouse house, String name, String arguments) throws ReflectiveOperationException {
        String[] words = arguments.isEmpty() ? new String[0] : arguments.split(", ");
        for (Method method : PittanceHouse.class.getDeclaredMethods()) {
            if (method.getName().equals(name) && Modifier.isPublic(method.getModifiers())) {
                Object[] values = new Object[words.length];
                for (int i = 0; i < words.length; i++) {
                    boolean isTruth = method.getParameterTypes()[i] == boolean.class;
                    values[i] = isTruth ? (Object) words[i].equals("true") : (Object) Integer.valueOf(words[i]);
                }
                return (int) method.invoke(house, values);
            }
        }
        throw new NoSuchMethodException(name);
    }

    private static void calls(String page) throws ReflectiveOperationException {
        PittanceHouse house = new PittanceHouse();
        int seen = 0;
        for (String line : block(page, "java").split("\n")) {
            Matcher m = CALL.matcher(line);
            if (m.matches()) {
                seen++;
                int got = answer(house, m.group(1), m.group(2));
                must(got == Integer.parseInt(m.group(3)), line + " answered " + got);
            } else {
                must(line.equals("PittanceHouse house = new PittanceHouse();"), "not a call: " + line);
            }
        }
        must(seen > 0, "calls are seen");
    }

    private static void orders(String page) {
        PittanceHouse house = new PittanceHouse();
        for (int i = 0; i < 3; i++) {
            house.come(60, true);
        }
        house.choose(3);
        for (String text : block(page, "text").split("\n")) {
            for (int i = 0; i < text.length(); i++) {
                must(house.append(text.charAt(i)) == i + 1, "there is room for: " + text);
            }
            must(house.run() == text.split(";").length, "orders that can be carried out: " + text);
        }
    }

    private static void face(String page) throws ReflectiveOperationException {
        for (Method method : PittanceHouse.class.getDeclaredMethods()) {
            boolean isFace = Modifier.isPublic(method.getModifiers());
            must(!isFace || page.contains("`" + method.getName() + "`"), method.getName() + " is not named");
        }
        for (Field field : PittanceHouse.class.getDeclaredFields()) {
            if (Modifier.isPublic(field.getModifiers())) {
                must(page.contains("| `" + field.getName() + "` | " + field.getInt(null) + " |"), field + " is not told");
            }
        }
    }

    private static void tests(String page) throws IOException {
        try (var files = Files.list(Path.of("src/test/java"))) {
            for (Path file : (Iterable<Path>) files::iterator) {
                String name = file.getFileName().toString().replace(".java", "");
                must(page.contains("| `" + name + "` |"), "the test " + name + " is not named");
            }
        }
    }

    public static void main(String[] args) throws IOException, ReflectiveOperationException {
        String page = Files.readString(Path.of("README.md"), StandardCharsets.US_ASCII);
        calls(page);
        orders(page);
        face(page);
        tests(page);
        System.out.println(wrong == 0 ? "README.md says what is so" : wrong + " things are not so");
        if (wrong != 0) {
            System.exit(1);
        }
    }
}

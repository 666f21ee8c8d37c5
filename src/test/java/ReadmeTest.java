import java.lang.reflect.Method;
import java.lang.reflect.Modifier;
import java.nio.file.Files;
import java.nio.file.Path;
import java.util.regex.Matcher;
import java.util.regex.Pattern;

/** README.md: each call of its examples answers the number that stands behind it, and no call is left out. */
final class ReadmeTest {
    private static final Check CHECK = new Check("ReadmeTest");
    private static final Pattern EXAMPLE = Pattern.compile("(?s)```java\n(.*?)```");
    private static final Pattern FED = Pattern.compile("for \\(char c : \"([^\"]*)\"\\.toCharArray\\(\\)\\) x\\.feed\\(c\\);");
    private static final Pattern CALL = Pattern.compile("x\\.(\\w+)\\(([-0-9, ]*)\\); +// (-?\\d+): .+");

    public static void main(String[] args) throws Exception {
        String page = Files.readString(Path.of("README.md"));
        Matcher example = EXAMPLE.matcher(page);
        while (example.find()) {
            follow(example.group(1).split("\n"));
        }
        CHECK.dueTrue("there are examples", CHECK.asked() > 0);
        for (Method m : CellPacks.class.getDeclaredMethods()) {
            CHECK.dueTrue(m.getName() + " is told, if public", !Modifier.isPublic(m.getModifiers()) || page.contains("`" + m.getName() + "`"));
        }
        CHECK.finish();
    }

    private static void follow(String[] lines) throws ReflectiveOperationException {
        CHECK.dueSame("the first line", lines[0], "CellPacks x = new CellPacks();");
        CellPacks x = new CellPacks();
        for (int i = 1; i < lines.length; i++) {
            Matcher fed = FED.matcher(lines[i]);
            Matcher call = CALL.matcher(lines[i]);
            if (fed.matches()) {
                Check.type(x, fed.group(1));
            } else if (call.matches()) {
                CHECK.due(lines[i], answer(x, call.group(1), call.group(2)), Integer.parseInt(call.group(3)));
            } else {
                CHECK.fail("neither a text nor a call with its answer: " + lines[i]);
            }
        }
    }

    private static int answer(CellPacks x, String name, String told) throws ReflectiveOperationException {
        String[] numbers = told.isBlank() ? new String[0] : told.split(",");
        Class<?>[] types = new Class<?>[numbers.length];
        Object[] values = new Object[numbers.length];
        for (int i = 0; i < numbers.length; i++) {
            types[i] = int.class;
            values[i] = Integer.parseInt(numbers[i].trim());
        }
        Method method = CellPacks.class.getMethod(name, types);
        return (Integer) method.invoke(x, values);
    }
}

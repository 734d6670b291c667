import java.io.IOException;
import java.lang.reflect.Method;
import java.lang.reflect.Modifier;
import java.nio.file.Files;
import java.nio.file.Path;
import java.util.regex.Matcher;
import java.util.regex.Pattern;

/** README.md shows calls with their answers: they are the class's answers, and no method is left out. */
final class ReadmeTest {
    private static final Pattern SHOWN_CALL = Pattern.compile("(?m)^x\\.(\\w+)\\(([-\\d, ]*)\\);\\s+// (-?\\d+)\\b");

    public static void main(String[] args) throws IOException, ReflectiveOperationException {
        String readme = Files.readString(Path.of("README.md"));
        shownAnswers(readme);
        everyMethodIsNamed(readme);
        Check.finish("ReadmeTest");
    }

    private static void shownAnswers(String readme) throws ReflectiveOperationException {
        LinkEstablisher x = new LinkEstablisher();
        Matcher shown = SHOWN_CALL.matcher(readme);
        int count = 0;
        while (shown.find()) {
            String call = shown.group(1) + "(" + shown.group(2) + ")";
            Check.due("README.md: " + call, answer(x, shown.group(1), shown.group(2)), Long.parseLong(shown.group(3)));
            count++;
        }
        Check.due("calls that README.md shows", count, readme.split("\nx\\.", -1).length - 1);
        Check.holds("README.md shows calls", count > 0);
    }

    private static long answer(LinkEstablisher x, String name, String arguments) throws ReflectiveOperationException {
        String[] texts = arguments.isBlank() ? new String[0] : arguments.split(", *");
        Class<?>[] types = new Class<?>[texts.length];
        Object[] values = new Object[texts.length];
        for (int i = 0; i < texts.length; i++) {
            types[i] = int.class;
            values[i] = Integer.parseInt(texts[i]);
        }
        return ((Number) LinkEstablisher.class.getMethod(name, types).invoke(x, values)).longValue();
    }

    private static void everyMethodIsNamed(String readme) {
        for (Method method : LinkEstablisher.class.getDeclaredMethods()) {
            if (Modifier.isPublic(method.getModifiers())) {
                Check.holds("README.md names " + method.getName(), readme.contains("`" + method.getName() + "`"));
            }
        }
    }
}

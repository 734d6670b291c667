import java.io.IOException;
import java.lang.reflect.Field;
import java.lang.reflect.Method;
import java.lang.reflect.Modifier;
import java.nio.file.Files;
import java.nio.file.Path;
import java.util.regex.Matcher;
import java.util.regex.Pattern;

/** The rules of LANGUAGE.md that a look at the source and its classes can tell. .ci/run starts it in the project's folder. */
final class LanguageTest {
    private static final String[] RULED_OUT = {"throw", "throws", "try", "catch", "finally", "synchronized", "assert",
        "volatile", "native", "package", "protected", "var", "Object", "System\\.(?!arraycopy\\b)\\w+", "\\w+Exact",
        "Map", "HashMap", "Random", "Thread", "Iterator", "toString", "hashCode", "->", "::", "@"};

    public static void main(String[] args) throws IOException {
        String source = Files.readString(Path.of("src/main/java/LinkEstablisher.java"));
        String code = source.replaceAll("(?s)/\\*.*?\\*/", " ").replaceAll("//[^\n]*", " ");
        for (String word : RULED_OUT) {
            String bounded = Character.isLetter(word.charAt(0)) ? "\\b" + word + "\\b" : word;
            Check.holds("no " + word, !Pattern.compile(bounded).matcher(code).find());
        }
        imports(code);
        classesAndStaticFields(code);
        methodLengths(code);
        sizes(LinkEstablisher.class);
        for (Class<?> inside : LinkEstablisher.class.getDeclaredClasses()) {
            sizes(inside);
        }
        Check.finish("LanguageTest");
    }

    private static void imports(String code) {
        Matcher imported = Pattern.compile("(?m)^import (.*);").matcher(code);
        while (imported.find()) {
            Check.holds("import of " + imported.group(1),
                imported.group(1).matches("java\\.util\\.(Arrays|ArrayList|List|Iterator)"));
        }
    }

    private static void classesAndStaticFields(String code) {
        Matcher types = Pattern.compile("\\b(class|record|enum|interface)\\s+(\\w+)").matcher(code);
        int count = 0;
        while (types.find()) {
            count++;
        }
        Check.holds("at most twelve classes", count <= 12);
        Matcher statics = Pattern.compile("(?m)^\\s*(?:private|public)? ?static (?!final)[^(]*[;=]").matcher(code);
        Check.holds("no static field that is not final", !statics.find());
    }

    private static void methodLengths(String code) {
        int start = -1;
        String[] lines = code.split("\n");
        for (int i = 0; i < lines.length; i++) {
            if (lines[i].matches("( {4}| {8})[\\w\\[\\] ]+\\(.*\\) \\{") && !lines[i].contains(" new ")) {
                start = i;
            } else if (start >= 0 && lines[i].matches("( {4}| {8})\\}") && indent(lines[i]) == indent(lines[start])) {
                Check.holds("line " + (start + 1) + " begins a method of at most sixty lines", i - start < 60);
                start = -1;
            }
        }
    }

    private static void sizes(Class<?> type) {
        int fields = 0;
        for (Field field : type.getDeclaredFields()) {
            boolean isStatic = Modifier.isStatic(field.getModifiers());
            fields += isStatic ? 0 : 1;
            Check.holds(type + ": the static field " + field.getName() + " is final",
                !isStatic || Modifier.isFinal(field.getModifiers()));
        }
        Check.holds(type + " has at most twenty fields, but has " + fields, fields <= 20);
        for (Method method : type.getDeclaredMethods()) {
            Check.holds(method + " takes at most seven parameters", method.getParameterCount() <= 7);
        }
    }

    private static int indent(String line) {
        return line.length() - line.stripLeading().length();
    }
}

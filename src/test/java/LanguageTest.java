import java.io.IOException;
import java.lang.reflect.Field;
import java.lang.reflect.Method;
import java.lang.reflect.Modifier;
import java.nio.file.Files;
import java.nio.file.Path;
import java.util.ArrayList;
import java.util.List;
import java.util.regex.Matcher;
import java.util.regex.Pattern;

/** Rules of LANGUAGE.md that can be seen from the class's text or its members; see FaceTest for rule 1. */
public final class LanguageTest {
    private static final String[] RULED_OUT = {"\\bthrows?\\b", "\\btry\\b", "\\bcatch\\b", "\\bsynchronized\\b",
        "\\bassert\\b", "->", "::", "\\bpackage\\b", "\\bstatic \\{", "Exact\\b", "\\bhashCode\\b", "\\btoString\\b"};
    private static final String[] IMPORTS = {"java.util.Arrays", "java.util.List", "java.util.ArrayList"};
    private static final String[] LIBRARY = {"Arrays.fill", "Arrays.copyOf", "Arrays.copyOfRange", "System.arraycopy",
        "Math.abs", "Math.max", "Math.min", "Math.floorDiv", "Math.floorMod"};

    private final Check check = new Check();

    public static void main(String[] args) throws IOException {
        LanguageTest test = new LanguageTest();
        String code = withoutComments(Files.readString(Path.of("src/main/java/DotConsole.java")));
        test.words(code);
        test.lengths(code);
        List<Class<?>> classes = new ArrayList<>(List.of(DotConsole.class.getDeclaredClasses()));
        classes.add(DotConsole.class);
        test.check.due("more than 12 classes", classes.size() > 12 ? 1 : 0, 0);
        for (Class<?> one : classes) {
            test.fields(one);
            test.methods(one);
        }
        test.check.finish();
    }

    private static String withoutComments(String source) {
        return source.replaceAll("(?s)/\\*.*?\\*/", "").replaceAll("//.*", "");
    }

    private void words(String code) {
        for (String wrong : RULED_OUT) {
            check.due("ruled out: " + wrong, Pattern.compile(wrong).matcher(code).results().count(), 0);
        }
        Matcher imports = Pattern.compile("import ([\\w.*]+);").matcher(code);
        while (imports.find()) {
            check.due("import " + imports.group(1), List.of(IMPORTS).contains(imports.group(1)) ? 1 : 0, 1);
        }
        Matcher calls = Pattern.compile("(?<!\\.)\\b(?:Arrays|System|Math|Integer|Long)\\.\\w+").matcher(code);
        while (calls.find()) {
            check.due(calls.group() + " is in the library", List.of(LIBRARY).contains(calls.group()) ? 1 : 0, 1);
        }
    }

    /** Rule 11. A method's head and the brace at its end are indented alike, and all between them more. */
    private void lengths(String code) {
        String head = "";
        int length = 0;
        for (String line : code.split("\n")) {
            length++;
            if (head.isEmpty() && line.matches(" +\\w.*\\) \\{")) {
                head = line;
                length = 1;
            }
            if (!head.isEmpty() && line.equals(head.replaceAll("\\w.*", "}"))) {
                check.due("more than sixty lines:" + head, length > 60 ? 1 : 0, 0);
                head = "";
            }
        }
    }

    /** Rules 5 and 11: static fields are final constants; some twenty other fields. */
    private void fields(Class<?> one) {
        int own = 0;
        for (Field field : one.getDeclaredFields()) {
            boolean isStatic = Modifier.isStatic(field.getModifiers());
            own += isStatic ? 0 : 1;
            boolean isFinal = Modifier.isFinal(field.getModifiers());
            check.due(field + " is static and not final", isStatic && !isFinal ? 1 : 0, 0);
        }
        check.due(one + " has more than 20 fields", own > 20 ? 1 : 0, 0);
    }

    private void methods(Class<?> one) {
        for (Method method : one.getDeclaredMethods()) {
            check.due(method + " takes more than seven", method.getParameterCount() > 7 ? 1 : 0, 0);
        }
    }
}

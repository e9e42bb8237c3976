import java.io.IOException;
import java.lang.reflect.Constructor;
import java.lang.reflect.Field;
import java.lang.reflect.Method;
import java.lang.reflect.Modifier;
import java.nio.charset.StandardCharsets;
import java.nio.file.Files;
import java.nio.file.Path;
import java.util.ArrayList;
import java.util.List;
import java.util.Set;
import java.util.regex.Matcher;
import java.util.regex.Pattern;

/**
 * Those rules of LANGUAGE.md that can be read from the file and the class, each told with its
 * number. Narrower than the rules: the class needs only what is let through here. Run from the
 * project's folder.
 */
public final class LanguageTest {
    private static final String FILE = "src/main/java/SnoopingBus.java";
    private static final Set<String> LIBRARY = Set.of("Math.max", "Math.min", "System.arraycopy");
    private static final Set<String> TYPES = Set.of("int", "boolean", "void", "[I");
    private static final Pattern COMMENT = Pattern.compile("/\\*.*?\\*/|//[^\n]*", Pattern.DOTALL);
    private static final Pattern LIBRARY_CALL = Pattern.compile("\\b[A-Z]\\w*\\s*\\.\\s*\\w+");
    private static final Pattern METHOD = Pattern.compile("(?m)^( +)(?:public|private)[^;=]*?\\b(\\w+)\\([^)]*\\) \\{\n(.*?)^\\1\\}", Pattern.DOTALL);
    private static final String[] NOT_THERE = {
        "1: \\bpackage\\b|\\bimport\\b", "2: ->|::", "3: \\bdouble\\b|\\bfloat\\b|\\bObject\\b|\\bString\\b|\"",
        "5: \\bstatic\\s*\\{", "6: \\bthrows?\\b|\\btry\\b|\\bcatch\\b|\\bfinally\\b|\\bsynchronized\\b|\\bassert\\b",
        "7: \\bnull\\b", "9: \\bwhile\\b|\\bfor\\s*\\(\\s*;",
    };
    private static final int MOST_PARAMETERS = 7;
    private static final int MOST_LINES = 60;
    private static final int MOST_CLASSES = 12;
    private static final int MOST_FIELDS = 20;

    public static void main(String[] args) throws IOException {
        String text = Files.readString(Path.of(FILE), StandardCharsets.US_ASCII);
        String code = COMMENT.matcher(text).replaceAll("");
        oneFile();
        words(code);
        libraryCalls(code);
        methodLengths(text);
        List<Class<?>> classes = allClasses();
        Due.is("11: at most " + MOST_CLASSES + " classes", classes.size() <= MOST_CLASSES ? 1 : 0, 1);
        for (Class<?> one : classes) {
            fields(one, classes);
            parameters(one, classes);
        }
        Due.close();
    }

    private static void oneFile() throws IOException {
        try (var files = Files.walk(Path.of("src/main"))) {
            Due.is("one file", (int) files.filter(Files::isRegularFile).count(), 1);
        }
    }

    private static void words(String code) {
        for (String rule : NOT_THERE) {
            int colon = rule.indexOf(": ");
            Matcher found = Pattern.compile(rule.substring(colon + 2)).matcher(code);
            boolean there = found.find();
            Due.is(rule.substring(0, colon) + ": has " + (there ? found.group() : "none"), there ? 1 : 0, 0);
        }
    }

    private static void libraryCalls(String code) {
        Matcher call = LIBRARY_CALL.matcher(code);
        while (call.find()) {
            Due.is("4: " + call.group(), LIBRARY.contains(call.group()) ? 1 : 0, 1);
        }
    }

    private static void methodLengths(String text) {
        Matcher method = METHOD.matcher(text);
        while (method.find()) {
            long lines = method.group(3).lines().count();
            Due.is("11: " + method.group(2) + " has " + lines + " lines", lines <= MOST_LINES ? 1 : 0, 1);
        }
    }

    private static List<Class<?>> allClasses() {
        List<Class<?>> classes = new ArrayList<>();
        classes.add(SnoopingBus.class);
        for (int i = 0; i < classes.size(); i++) {
            classes.addAll(List.of(classes.get(i).getDeclaredClasses()));
        }
        return classes;
    }

    private static void fields(Class<?> one, List<Class<?>> own) {
        int many = 0;
        for (Field field : one.getDeclaredFields()) {
            Due.is("3: " + field, isLet(field.getType(), own) ? 1 : 0, 1);
            if (Modifier.isStatic(field.getModifiers())) {
                boolean constant = Modifier.isFinal(field.getModifiers()) && field.getType() == int.class;
                Due.is("5: " + field, constant ? 1 : 0, 1);
            } else {
                many++;
            }
        }
        Due.is("11: fields of " + one.getName(), many <= MOST_FIELDS ? 1 : 0, 1);
    }

    private static void parameters(Class<?> one, List<Class<?>> own) {
        for (Method method : one.getDeclaredMethods()) {
            Due.is("11: parameters of " + method, method.getParameterCount() <= MOST_PARAMETERS ? 1 : 0, 1);
            Due.is("3: answer of " + method, isLet(method.getReturnType(), own) ? 1 : 0, 1);
        }
        for (Constructor<?> maker : one.getDeclaredConstructors()) {
            Due.is("11: parameters of " + maker, maker.getParameterCount() <= MOST_PARAMETERS ? 1 : 0, 1);
        }
    }

    private static boolean isLet(Class<?> type, List<Class<?>> own) {
        return TYPES.contains(type.getName()) || own.contains(type.isArray() ? type.getComponentType() : type);
    }
}

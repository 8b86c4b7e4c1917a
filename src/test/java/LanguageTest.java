import java.io.IOException;
import java.lang.reflect.Field;
import java.lang.reflect.Method;
import java.lang.reflect.Modifier;
import java.nio.file.Files;
import java.nio.file.Path;
import java.util.ArrayList;
import java.util.HashSet;
import java.util.List;
import java.util.Set;
import java.util.regex.Matcher;
import java.util.regex.Pattern;

/** The rules of ../shared/LANGUAGE.md that can be told by looking at the class: the label is the number of the rule. */
public final class LanguageTest {
    private static final Set<String> IMPORTS = Set.of("java.util.ArrayList", "java.util.Arrays", "java.util.Iterator",
            "java.util.List", "java.util.NoSuchElementException");
    private static final Set<String> LIBRARY = Set.of("Math.abs", "Math.max", "Math.min", "Math.floorDiv", "Math.floorMod",
            "Integer.bitCount", "Integer.compare", "System.arraycopy", "Arrays.fill", "Arrays.copyOf", "Arrays.copyOfRange");
    // Refused changes are told by their codes: a try would only be needed to catch what the class throws itself.
    private static final List<String> UNUSED = List.of("try", "catch", "finally", "synchronized", "assert", "instanceof", "var",
            "Object", "toString", "equals", "hashCode", "getMessage", "getClass", "transient", "volatile");

    private static final String NAME = "HammerDepot";

    private LanguageTest() {
    }

    private static String withoutCommentsAndTexts(String source) {
        return source.replaceAll("(?s)/\\*.*?\\*/", "").replaceAll("//[^\n]*", "")
                .replaceAll("\"(\\\\.|[^\"\\\\])*\"", "\"\"").replaceAll("'(\\\\.|[^'\\\\])'", "' '");
    }

    private static boolean has(String code, String pattern) {
        return Pattern.compile(pattern).matcher(code).find();
    }

    private static void oneFile(String source, String code) throws IOException {
        try (var files = Files.walk(Path.of("src", "main"))) {
            Check.due("1: the files of the program", files.filter(Files::isRegularFile).count(), 1L);
        }
        Check.due("1: a package line", has(code, "(?m)^\\s*package "), false);
        Check.due("3: a sign above 127", source.chars().anyMatch(c -> c > 127), false);
        Matcher taken = Pattern.compile("(?m)^import (.*);$").matcher(code);
        while (taken.find()) {
            Check.due("4: import of " + taken.group(1), IMPORTS.contains(taken.group(1)), true);
        }
    }

    private static void noOtherWords(String code) {
        Check.due("2: a lambda or a method reference", has(code, "->|::"), false);
        for (String word : UNUSED) {
            Check.due("6: the word " + word, has(code, "\\b" + word + "(?!\\w)"), false);
        }
        Check.due("10: texts joined by +", has(code, "\"\" *\\+|\\+ *\"\""), false);
    }

    private static void onlyKnownLibrary(String code, Set<String> own) {
        Matcher call = Pattern.compile("\\b([A-Z]\\w*)\\.(\\w+)\\(").matcher(code);
        while (call.find()) {
            String name = call.group(1) + "." + call.group(2);
            Check.due("4: call of " + name, own.contains(call.group(1)) || LIBRARY.contains(name), true);
        }
    }

    private static void onlyKnownExceptions(String source, String code) {
        String known = "IllegalState|IllegalArgument|IndexOutOfBounds|Arithmetic|UnsupportedOperation|NoSuchElement|Runtime";
        Matcher thrown = Pattern.compile("throw [^;]*;").matcher(source);
        while (thrown.find()) {
            boolean right = thrown.group().matches("throw new (" + known + ")Exception\\((\"[^\"]*\")?\\);");
            Check.due("6: " + thrown.group(), right, true);
        }
        Check.due("6: a throw in a constructor", has(code, "(?m)^ +(public )?(" + NAME + "|[A-Z]\\w+)\\(\\) \\{[^}]*throw"), false);
    }

    private static void shortMethods(String source) {
        String[] lines = source.split("\n");
        int start = 0;
        for (int i = 0; i < lines.length; i++) {
            if (lines[i].matches(" {4}( {4})?[a-zA-Z].*\\) (throws .*)?\\{")) {
                start = i;
            }
            if (lines[i].matches(" {4}( {4})?\\}")) {
                Check.due("11: the method in line " + (start + 1) + " is short", i - start <= 60, true);
                start = i;
            }
        }
    }

    private static void privateAndFew(List<Class<?>> classes, Set<String> face) {
        Check.due("11: the classes are few", classes.size() <= 12, true);
        for (Class<?> one : classes) {
            if (one != HammerDepot.class) {
                int modifiers = one.getModifiers();
                Check.due("1: static " + one, Modifier.isStatic(modifiers), true);
                Check.due("1: hidden " + one, Modifier.isPublic(modifiers) || Modifier.isProtected(modifiers), false);
            }
            fewFields(one);
            for (Method method : one.getDeclaredMethods()) {
                boolean open = one == HammerDepot.class && Modifier.isPublic(method.getModifiers());
                Check.due("1: another " + method, open || !face.contains(method.getName()), true);
                Check.due("11: the parameters of " + method, method.getParameterCount() <= 7, true);
            }
        }
    }

    private static void fewFields(Class<?> one) {
        int fields = 0;
        for (Field field : one.getDeclaredFields()) {
            if (Modifier.isStatic(field.getModifiers())) {
                Class<?> type = field.getType().isArray() ? field.getType().getComponentType() : field.getType();
                Check.due("5: final " + field, Modifier.isFinal(field.getModifiers()), true);
                Check.due("5: a constant " + field, type.isPrimitive() || type == String.class, true);
            } else {
                fields++;
            }
        }
        Check.due("11: the fields of " + one + " are few", fields <= 20, true);
    }

    public static void main(String[] args) throws IOException {
        Check.about("LANGUAGE.md, rule ");
        String source = Files.readString(Path.of("src", "main", "java", NAME + ".java"));
        String code = withoutCommentsAndTexts(source);
        List<Class<?>> classes = new ArrayList<>(List.of(HammerDepot.class.getDeclaredClasses()));
        classes.add(HammerDepot.class);
        Set<String> names = new HashSet<>();
        for (Class<?> one : classes) {
            names.add(one.getSimpleName());
        }
        oneFile(source, code);
        noOtherWords(code);
        onlyKnownLibrary(code, names);
        onlyKnownExceptions(source, code);
        shortMethods(source);
        privateAndFew(classes, FaceTest.namesOfTheFace());
        Check.end();
    }
}

import java.io.IOException;
import java.lang.reflect.Constructor;
import java.lang.reflect.Executable;
import java.lang.reflect.Member;
import java.lang.reflect.Method;
import java.lang.reflect.Modifier;
import java.nio.file.Files;
import java.nio.file.Path;
import java.util.Set;
import java.util.TreeSet;

/** The class has the document's public face, and no other member that is not private. */
public final class FaceTest {
    private static Set<String> faceOfTheDocument() throws IOException {
        String text = Files.readString(Path.of("..", "shared", "DOC.md"));
        int start = text.indexOf("public final class HammerDepot {");
        Set<String> face = new TreeSet<>();
        for (String line : text.substring(start, text.indexOf("```", start)).split("\n")) {
            if (line.startsWith("    public ")) {
                face.add(withoutNames(line.trim().replace(";", "")));
            }
        }
        return face;
    }

    /** Leaves the types of the parameters alone. */
    private static String withoutNames(String line) {
        int end = line.indexOf(')');
        return line.substring(0, end).replaceAll("(\\w+) \\w+(?=,|$)", "$1") + line.substring(end);
    }

    private static String namesOf(Class<?>[] types) {
        StringBuilder names = new StringBuilder();
        for (Class<?> type : types) {
            names.append(names.length() == 0 ? "" : ", ").append(type.getSimpleName());
        }
        return names.toString();
    }

    private static String written(String beginning, Executable member) {
        String thrown = namesOf(member.getExceptionTypes());
        return beginning + "(" + namesOf(member.getParameterTypes()) + ")" + (thrown.isEmpty() ? "" : " throws " + thrown);
    }

    private static boolean isFree(Member member) {
        return Modifier.isPrivate(member.getModifiers()) || member.isSynthetic();
    }

    private static Set<String> faceOfTheClass() {
        Set<String> face = new TreeSet<>();
        for (Constructor<?> made : HammerDepot.class.getDeclaredConstructors()) {
            if (!isFree(made)) {
                face.add(written(Modifier.toString(made.getModifiers()) + " HammerDepot", made));
            }
        }
        for (Method method : HammerDepot.class.getDeclaredMethods()) {
            if (!isFree(method)) {
                String type = method.getReturnType().getSimpleName();
                face.add(written(Modifier.toString(method.getModifiers()) + " " + type + " " + method.getName(), method));
            }
        }
        return face;
    }

    static Set<String> namesOfTheFace() {
        Set<String> names = new TreeSet<>();
        for (Method method : HammerDepot.class.getDeclaredMethods()) {
            if (Modifier.isPublic(method.getModifiers())) {
                names.add(method.getName());
            }
        }
        return names;
    }

    private static void onlyPrivateFields() {
        for (Member field : HammerDepot.class.getDeclaredFields()) {
            Check.due("private field " + field.getName(), isFree(field), true);
        }
    }

    private static void noNameTwice() {
        Set<String> names = new TreeSet<>();
        for (Method method : HammerDepot.class.getDeclaredMethods()) {
            if (!method.isSynthetic()) {
                Check.due("no other method " + method.getName(), names.add(method.getName()), true);
            }
        }
    }

    public static void main(String[] args) throws IOException {
        Check.due("the class", Modifier.toString(HammerDepot.class.getModifiers()), "public final");
        Check.due("the face", faceOfTheClass(), faceOfTheDocument());
        onlyPrivateFields();
        noNameTwice();
        Check.end();
    }
}

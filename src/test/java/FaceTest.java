import java.io.IOException;
import java.lang.reflect.Constructor;
import java.lang.reflect.Field;
import java.lang.reflect.Method;
import java.lang.reflect.Modifier;
import java.nio.file.Files;
import java.nio.file.Path;
import java.util.Arrays;
import java.util.Set;
import java.util.TreeSet;
import java.util.regex.Matcher;
import java.util.regex.Pattern;

/**
 * The public face: the constants, the constructor and the methods, and no other member to be seen. Is run from the
 * root of the project.
 */
public final class FaceTest {
    private static final String[] METHODS = {
        "int newClass(int, int)", "int leaf(int, int)", "int one(int, int)", "int two(int, int)",
        "int three(int, int)", "int drop()", "int method(int, int)", "int main()", "void forget()",
        "int depth()", "int run()", "int kind()", "int value()", "int printed()", "int output(int)",
        "int turns()", "int deepest()", "int made(int)", "int reach()", "int tidy(int)",
    };

    public static void main(String[] args) throws Exception {
        Check check = new Check();
        constants(check);
        members(check);
        document(check);
        check.end();
    }

    /** The same, as it stands in the document. */
    private static void document(Check check) throws IOException, ReflectiveOperationException {
        String text = Files.readString(Path.of("../shared/DOC.md"));
        String face = text.substring(text.indexOf("```java"), text.indexOf("## Terms"));
        Matcher constant = Pattern.compile("public static final int (\\w+) = (-?\\d+);").matcher(face);
        int constants = 0;
        while (constant.find()) {
            constants++;
            check.due(constant.group(1), MessageMachine.class.getField(constant.group(1)).getInt(null), Integer.parseInt(constant.group(2)));
        }
        check.due("constants of the document", constants, 9);
        Set<String> methods = new TreeSet<>();
        Matcher method = Pattern.compile("public ((?:int|void) \\w+\\(.*?\\));").matcher(face);
        while (method.find()) {
            methods.add(method.group(1).replaceAll("int \\w+([,)])", "int$1"));
        }
        check.same("the methods of the document", methods.toString(), new TreeSet<>(Arrays.asList(METHODS)).toString());
    }

    private static void constants(Check check) {
        check.due("BAD_ARG", MessageMachine.BAD_ARG, -1);
        check.due("FULL", MessageMachine.FULL, -2);
        check.due("TOO_FEW", MessageMachine.TOO_FEW, -3);
        check.due("NONE", MessageMachine.NONE, -4);
        check.due("DONE", MessageMachine.DONE, 0);
        check.due("STUCK", MessageMachine.STUCK, 1);
        check.due("TIRED", MessageMachine.TIRED, 2);
        check.due("DEEP", MessageMachine.DEEP, 3);
        check.due("FULL_UP", MessageMachine.FULL_UP, 4);
    }

    private static void members(Check check) {
        Class<?> face = MessageMachine.class;
        check.holds("public and final", Modifier.isPublic(face.getModifiers()) && Modifier.isFinal(face.getModifiers()));
        check.due("nested classes", face.getDeclaredClasses().length, 0);
        Set<String> methods = new TreeSet<>();
        Set<String> names = new TreeSet<>();
        for (Method m : face.getDeclaredMethods()) {
            if (!Modifier.isPrivate(m.getModifiers())) {
                check.holds(m + " is public and not static", m.getModifiers() == Modifier.PUBLIC);
                methods.add(shown(m));
                names.add(m.getName());
            }
        }
        check.holds("the methods are those of the document: " + methods, methods.equals(new TreeSet<>(Arrays.asList(METHODS))));
        for (Method m : face.getDeclaredMethods()) {
            check.holds("no private namesake: " + m, !Modifier.isPrivate(m.getModifiers()) || !names.contains(m.getName()));
        }
        int constants = 0;
        for (Field f : face.getDeclaredFields()) {
            if (!Modifier.isPrivate(f.getModifiers())) {
                constants++;
                check.holds(f + " is a constant", f.getModifiers() == (Modifier.PUBLIC | Modifier.STATIC | Modifier.FINAL));
            }
        }
        check.due("public constants", constants, 9);
        Constructor<?>[] constructors = face.getDeclaredConstructors();
        check.due("constructors", constructors.length, 1);
        check.holds("the constructor is public, without parameters",
            constructors[0].getModifiers() == Modifier.PUBLIC && constructors[0].getParameterCount() == 0);
    }

    private static String shown(Method m) {
        StringBuilder text = new StringBuilder(m.getReturnType() + " " + m.getName() + "(");
        for (Class<?> type : m.getParameterTypes()) {
            text.append(text.charAt(text.length() - 1) == '(' ? "" : ", ").append(type);
        }
        return text.append(")").toString();
    }
}

import java.io.IOException;
import java.lang.reflect.Field;
import java.lang.reflect.Modifier;
import java.nio.file.Files;
import java.nio.file.Path;
import java.util.ArrayList;
import java.util.LinkedHashMap;
import java.util.List;
import java.util.Map;
import java.util.Set;
import java.util.TreeSet;
import java.util.regex.Matcher;
import java.util.regex.Pattern;

/** What of LANGUAGE.md can be seen from the words of the program. Is run from the root of the project. */
public final class LanguageTest {
    private static final Path PROGRAM = Path.of("src/main/java/MessageMachine.java");
    private static final Set<String> FORBIDDEN = Set.of("float", "double", "String", "Object", "Math", "Integer", "Long", "System",
        "Arrays", "import", "package", "null", "throw", "throws", "try", "catch", "finally", "synchronized", "assert", "instanceof",
        "interface", "enum", "record", "protected", "->", "::", "@", "\"", "var");
    private static final Set<String> NOT_METHODS = Set.of("if", "for", "while", "switch", "return");
    private static final Check check = new Check();

    private final List<String> words = new ArrayList<>();
    private final List<Integer> lines = new ArrayList<>();
    private final Map<String, int[]> bodies = new LinkedHashMap<>();

    public static void main(String[] args) throws IOException {
        LanguageTest test = new LanguageTest();
        test.read(Files.readString(PROGRAM));
        test.findBodies();
        test.words();
        test.arrays();
        test.methods();
        test.loops();
        test.initialisers();
        fields();
        check.end();
    }

    private void read(String text) {
        String plain = blankComments(text);
        Matcher word = Pattern.compile("[A-Za-z_]\\w*|\\d\\w*|->|::|\\S").matcher(plain);
        int line = 1;
        int at = 0;
        while (word.find()) {
            for (; at < word.start(); at++) {
                line += plain.charAt(at) == '\n' ? 1 : 0;
            }
            words.add(word.group());
            lines.add(line);
        }
    }

    private static String blankComments(String text) {
        Matcher comment = Pattern.compile("//[^\n]*|/\\*.*?\\*/", Pattern.DOTALL).matcher(text);
        return comment.replaceAll(found -> found.group().replaceAll("[^\n]", " "));
    }

    /** The index of the bracket that closes the one at this index. */
    private int closing(int open) {
        int depth = 0;
        for (int i = open; i < words.size(); i++) {
            String word = words.get(i);
            depth += "({".contains(word) ? 1 : ")}".contains(word) ? -1 : 0;
            if (depth == 0) {
                return i;
            }
        }
        throw new IllegalStateException("no bracket closes that of line " + lines.get(open));
    }

    private void findBodies() {
        for (int i = words.indexOf("{") + 1; i < words.size(); i++) {
            if (words.get(i).equals("(")) {
                int close = closing(i);
                if (words.get(close + 1).equals("{")) {
                    String name = words.get(i - 1);
                    int end = closing(close + 1);
                    check.holds("one method of the name " + name, bodies.put(name, new int[] {close + 1, end}) == null);
                    int parameters = close > i + 1 ? 1 : 0;
                    for (int j = i; j < close; j++) {
                        parameters += words.get(j).equals(",") ? 1 : 0;
                    }
                    check.holds(name + " has at most seven parameters", parameters <= 7);
                    i = end;
                }
            }
        }
        check.holds("methods were found", bodies.size() > 20);
    }

    private void words() {
        int classWords = 0;
        for (int i = 0; i < words.size(); i++) {
            String word = words.get(i);
            check.holds("line " + lines.get(i) + " has no " + word, !FORBIDDEN.contains(word));
            classWords += word.equals("class") ? 1 : 0;
        }
        check.due("classes", classWords, 1);
    }

    private void arrays() {
        for (int i = 0; i < words.size(); i++) {
            if (words.get(i).equals("new")) {
                boolean inMethod = false;
                for (int[] body : bodies.values()) {
                    inMethod |= body[0] < i && i < body[1];
                }
                check.holds("line " + lines.get(i) + " makes its array in a field", !inMethod);
                check.holds("line " + lines.get(i) + " has a constant as length", words.get(i + 2).equals("[")
                    && words.get(i + 3).matches("[A-Z_]+|[1-9]\\d*") && words.get(i + 4).equals("]") && words.get(i + 5).equals(";"));
            }
        }
    }

    /** Each loop is a for over a counter that steps by one to a bound, and that nothing else changes. */
    private void loops() {
        for (int i = 0; i < words.size(); i++) {
            check.holds("line " + lines.get(i) + " has no loop but for", !Set.of("while", "do").contains(words.get(i)));
            if (words.get(i).equals("for")) {
                int close = closing(i + 1);
                String counter = words.get(i + 3);
                String head = String.join(" ", words.subList(i, close + 1));
                String end = counter + " (< \\w+|> = \\w+)( & & .*)?";
                String step = counter + " (\\+ \\+|- -)";
                check.holds("line " + lines.get(i) + " has a bound to be seen",
                    head.matches("for \\( int " + counter + " = \\w+ ; " + end + " ; " + step + " \\)"));
                check.holds("line " + lines.get(i) + " has a bound that its step goes to", head.contains(" < ") == head.endsWith("+ + )"));
                int last = closing(close + 1);
                for (int j = close; j < last; j++) {
                    boolean changed = words.get(j).equals(counter) && Set.of("=", "+", "-").contains(words.get(j + 1))
                        && Set.of("=", "+", "-").contains(words.get(j + 2)) || words.get(j).equals(counter) && words.get(j + 1).equals("=");
                    check.holds("line " + lines.get(j) + " leaves the counter alone", !changed);
                }
            }
        }
    }

    /** Fields get their values where they stand, without a call, and no other variable and no answer is an array. */
    private void initialisers() {
        for (int i = 0; i + 1 < words.size(); i++) {
            check.holds("line " + lines.get(i) + " has no static initialiser", !(words.get(i).equals("static") && words.get(i + 1).equals("{")));
            if (words.get(i).equals("[") && words.get(i + 1).equals("]")) {
                check.holds("line " + lines.get(i) + " has its array in a private final field",
                    words.get(i - 3).equals("private") && words.get(i - 2).equals("final") && words.get(i + 3).equals("="));
                check.holds("line " + lines.get(i) + " has one dimension", words.get(i + 4).equals("new") && !words.get(i + 2).equals("["));
            }
            boolean inMethod = false;
            for (int[] body : bodies.values()) {
                inMethod |= body[0] < i && i < body[1];
            }
            check.holds("line " + lines.get(i) + " begins a field's value with no call",
                inMethod || !words.get(i).equals("=") || !isCall(i + 1));
        }
    }

    private boolean isCall(int i) {
        return bodies.containsKey(words.get(i)) && words.get(i + 1).equals("(");
    }

    private void methods() {
        Map<String, Set<String>> calls = new LinkedHashMap<>();
        for (Map.Entry<String, int[]> method : bodies.entrySet()) {
            int begin = method.getValue()[0];
            int end = method.getValue()[1];
            int length = lines.get(end) - lines.get(begin) + 1;
            check.holds(method.getKey() + " is short: " + length, length <= 60);
            Set<String> called = new TreeSet<>();
            for (int i = begin; i < end; i++) {
                boolean unknown = words.get(i).matches("[A-Za-z_]\\w*") && words.get(i + 1).equals("(")
                    && !isCall(i) && !NOT_METHODS.contains(words.get(i));
                check.holds("line " + lines.get(i) + " calls no method from elsewhere", !unknown && !words.get(i).equals("."));
                if (isCall(i)) {
                    called.add(words.get(i));
                    int close = closing(i + 1);
                    for (int j = i + 1; j < close; j++) {
                        check.holds("line " + lines.get(i) + " has no call inside a call's arguments", !isCall(j));
                    }
                }
            }
            calls.put(method.getKey(), called);
        }
        for (String name : bodies.keySet()) {
            check.holds("calls from " + name + " go at most six deep", depth(name, calls, 1) <= 6);
        }
    }

    private static int depth(String name, Map<String, Set<String>> calls, int above) {
        int deepest = above;
        // Seven is too deep already; going on would not end where calls go in a circle.
        if (above <= 6) {
            for (String called : calls.get(name)) {
                deepest = Math.max(deepest, depth(called, calls, above + 1));
            }
        }
        return deepest;
    }

    private static void fields() {
        int count = 0;
        for (Field f : MessageMachine.class.getDeclaredFields()) {
            Class<?> type = f.getType();
            if (Modifier.isStatic(f.getModifiers())) {
                check.holds(f + " is a constant of int or long", Modifier.isFinal(f.getModifiers()) && (type == int.class || type == long.class));
            } else {
                count++;
                Class<?> element = type.isArray() ? type.getComponentType() : type;
                check.holds(f + " is a number, or an array of them", element.isPrimitive() && element != float.class && element != double.class);
            }
        }
        check.holds("some forty fields: " + count, count <= 40);
    }
}

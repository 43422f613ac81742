import java.util.ArrayList;
import java.util.List;
import java.util.function.Function;

/**
 * All that later calls can show of an object's state: the run, the terms on
 * the stack, the room that is left, the classes and their methods. Each look
 * uses its object up, within the calls that the document allows.
 */
final class Looks {
    static final List<Function<MessageMachine, String>> ALL = all();

    private Looks() {
    }

    private static List<Function<MessageMachine, String>> all() {
        List<Function<MessageMachine, String>> looks = new ArrayList<>();
        looks.add(Looks::run);
        looks.add(Looks::stack);
        looks.add(Looks::termRoom);
        looks.add(Looks::classRoom);
        for (int c = 0; c < 6; c++) {
            int looked = c;
            looks.add(m -> methods(m, looked));
            looks.add(m -> parents(m, looked));
        }
        return looks;
    }

    /** Every answer about the run. */
    static String run(MessageMachine m) {
        StringBuilder text = new StringBuilder(brief(m));
        text.append(" output");
        for (int k = -1; k <= 20; k++) {
            text.append(" ").append(m.output(k));
        }
        text.append(" made");
        for (int c = -1; c <= 6; c++) {
            text.append(" ").append(m.made(c));
        }
        return text.append(" depth ").append(m.depth()).toString();
    }

    private static String brief(MessageMachine m) {
        return "run " + m.run() + " kind " + m.kind() + " value " + m.value() + " printed " + m.printed() + " first " + m.output(0)
            + " turns " + m.turns() + " deepest " + m.deepest() + " reach " + m.reach();
    }

    private static String stack(MessageMachine m) {
        StringBuilder text = new StringBuilder("stack of " + m.depth());
        for (int i = 0; i < 9; i++) {
            text.append("; main ").append(m.main()).append(" ").append(brief(m));
        }
        return text.toString();
    }

    private static void empty(MessageMachine m) {
        for (int i = 0; i < 8; i++) {
            m.drop();
        }
    }

    private static String termRoom(MessageMachine m) {
        empty(m);
        int room = 0;
        while (room < 101 && m.leaf(1, 0) == 1) {
            m.drop();
            room++;
        }
        return "room for terms " + room;
    }

    /** With six classes FULL is tested last, so it tells how many fields each has. */
    private static String classRoom(MessageMachine m) {
        int room = 0;
        while (room < 7 && m.newClass(-1, 0) >= 0) {
            room++;
        }
        StringBuilder text = new StringBuilder("room for classes " + room + ", for fields");
        for (int c = 0; c < 6; c++) {
            for (int own = 0; own <= 4; own++) {
                text.append(" ").append(m.newClass(c, own));
            }
        }
        return text.toString();
    }

    private static String methods(MessageMachine m, int c) {
        StringBuilder text = new StringBuilder("class " + c);
        empty(m);
        for (int s = 0; s < 6; s++) {
            m.leaf(5, c);
            for (int i = 0; i < s % 3; i++) {
                m.leaf(0, 71 + i);
            }
            int answer = s % 3 == 0 ? m.one(7, s) : s % 3 == 1 ? m.two(8, s) : m.three(1, s);
            text.append("; message ").append(s).append(": ").append(answer).append(" ").append(m.main()).append(" ").append(brief(m));
        }
        return text.toString();
    }

    private static String parents(MessageMachine m, int c) {
        StringBuilder text = new StringBuilder("class " + c);
        empty(m);
        for (int p = 0; p < 6; p++) {
            m.leaf(5, c);
            text.append("; is ").append(p).append(": ").append(m.one(2, p)).append(" ").append(m.main()).append(" ").append(m.value());
        }
        return text.toString();
    }
}

import java.util.ArrayDeque;
import java.util.ArrayList;
import java.util.Deque;
import java.util.HashSet;
import java.util.List;
import java.util.Set;

/**
 * The same promises, written the other way round: terms are Java objects that are worked out by recursion, and
 * returns and ends are exceptions. The program is compared with it.
 */
final class Model {
    private static final Object NIL = new Object();

    private static final class Cls {
        final int number;
        final Cls parent;
        final int fields;
        final Term[] methods = new Term[6];

        Cls(int number, Cls parent, int fields) {
            this.number = number;
            this.parent = parent;
            this.fields = fields;
        }

        boolean isBelow(Cls other) {
            return this == other || parent != null && parent.isBelow(other);
        }

        Cls holder(int s) {
            return methods[s] != null ? this : parent == null ? null : parent.holder(s);
        }
    }

    private static final class Term {
        final String operator;
        final int k;
        final Term[] parts;

        Term(String operator, int k, Term[] parts) {
            this.operator = operator;
            this.k = k;
            this.parts = parts;
        }
    }

    private static final class Obj {
        final Cls cls;
        final Object[] fields = {NIL, NIL, NIL, NIL};

        Obj(Cls cls) {
            this.cls = cls;
        }
    }

    private static final class Activation {
        final Cls methodOf;
        final Object self;
        final Object[] variables = {NIL, NIL, NIL, NIL, NIL, NIL};
        boolean ended;

        Activation(Cls methodOf, Object self) {
            this.methodOf = methodOf;
            this.self = self;
        }
    }

    private static final class Block {
        final Activation home;
        final int v;
        final Term body;

        Block(Activation home, int v, Term body) {
            this.home = home;
            this.v = v;
            this.body = body;
        }
    }

    private static final class Return extends RuntimeException {
        final transient Activation to;
        final transient Object value;

        Return(Activation to, Object value) {
            super(null, null, false, false);
            this.to = to;
            this.value = value;
        }
    }

    private static final class End extends RuntimeException {
        final int how;

        End(int how) {
            super(null, null, false, false);
            this.how = how;
        }
    }

    private final List<Cls> classes = new ArrayList<>();
    private final ArrayList<Term> stack = new ArrayList<>();
    private int kept;
    private Term mainTerm;

    private int ending;
    private Object result;
    private List<Integer> printed;
    private int turns;
    private int underWay;
    private int deepest;
    private int[] made;

    int newClass(int parent, int own) {
        if (parent < -1 || parent >= classes.size() || own < 0 || own > 4) {
            return MessageMachine.BAD_ARG;
        }
        Cls above = parent < 0 ? null : classes.get(parent);
        int fields = own + (above == null ? 0 : above.fields);
        if (fields > 4) {
            return MessageMachine.BAD_ARG;
        }
        if (classes.size() == 6) {
            return MessageMachine.FULL;
        }
        classes.add(new Cls(classes.size(), above, fields));
        return classes.size() - 1;
    }

    int leaf(int kind, int k) {
        String[] operators = {"number", "nil", "self", "variable", "field", "new", "super"};
        String[] ranges = {"number", "any", "any", "variable", "field", "class", "m0"};
        return make(operators, ranges, kind, k, 0);
    }

    int one(int kind, int k) {
        String[] operators = {"set", "set-field", "is", "block", "call", "return", "print", "send", "super"};
        String[] ranges = {"variable", "field", "class", "block", "any", "any", "any", "m0", "m1"};
        return make(operators, ranges, kind, k, 1);
    }

    int two(int kind, int k) {
        String[] operators = {"+", "-", "*", "<", "=", "then", "loop", "call-with", "send", "super"};
        String[] ranges = {"any", "any", "any", "any", "any", "any", "any", "any", "m1", "m2"};
        return make(operators, ranges, kind, k, 2);
    }

    int three(int kind, int k) {
        return make(new String[] {"choose", "send"}, new String[] {"any", "m2"}, kind, k, 3);
    }

    private int make(String[] operators, String[] ranges, int kind, int k, int parts) {
        if (kind < 0 || kind >= operators.length || !inRange(ranges[kind], k)) {
            return MessageMachine.BAD_ARG;
        }
        if (kept == 100 || parts == 0 && stack.size() == 8) {
            return MessageMachine.FULL;
        }
        if (stack.size() < parts) {
            return MessageMachine.TOO_FEW;
        }
        Term[] taken = new Term[parts];
        for (int i = parts - 1; i >= 0; i--) {
            taken[i] = stack.remove(stack.size() - 1);
        }
        stack.add(new Term(operators[kind], k, taken));
        kept++;
        return stack.size();
    }

    private boolean inRange(String range, int k) {
        switch (range) {
            case "any": return true;
            case "number": return Math.abs((long) k) <= 99;
            case "variable": return 0 <= k && k <= 5;
            case "block": return -1 <= k && k <= 5;
            case "field": return 0 <= k && k <= 3;
            case "class": return 0 <= k && k < classes.size();
            case "m0": return k == 0 || k == 3;
            case "m1": return k == 1 || k == 4;
            default: return k == 2 || k == 5;
        }
    }

    int drop() {
        if (stack.isEmpty()) {
            return MessageMachine.TOO_FEW;
        }
        stack.remove(stack.size() - 1);
        return stack.size();
    }

    int method(int c, int s) {
        if (c < 0 || c >= classes.size() || s < 0 || s > 5) {
            return MessageMachine.BAD_ARG;
        }
        if (stack.isEmpty()) {
            return MessageMachine.TOO_FEW;
        }
        classes.get(c).methods[s] = stack.remove(stack.size() - 1);
        return stack.size();
    }

    int main() {
        if (stack.isEmpty()) {
            return MessageMachine.TOO_FEW;
        }
        mainTerm = stack.remove(stack.size() - 1);
        return stack.size();
    }

    void forget() {
        classes.clear();
        stack.clear();
        kept = 0;
        mainTerm = null;
    }

    int depth() {
        return stack.size();
    }

    int run() {
        turns = 0;
        underWay = 0;
        deepest = 0;
        made = new int[6];
        printed = new ArrayList<>();
        result = NIL;
        ending = MessageMachine.DONE;
        Activation first = new Activation(null, NIL);
        try {
            result = mainTerm == null ? NIL : work(mainTerm, first);
        } catch (Return r) {
            result = r.value;
        } catch (End e) {
            ending = e.how;
        }
        return ending;
    }

    int kind() {
        if (run() != MessageMachine.DONE) {
            return 0;
        }
        if (result == NIL) {
            return 1;
        }
        return result instanceof Integer ? 2 : result instanceof Block ? 3 : 4 + ((Obj) result).cls.number;
    }

    int value() {
        return run() == MessageMachine.DONE && result instanceof Integer ? (Integer) result : 0;
    }

    int printed() {
        run();
        return printed.size();
    }

    int output(int k) {
        run();
        return k >= 0 && k < printed.size() ? printed.get(k) : 0;
    }

    int turns() {
        run();
        return turns;
    }

    int deepest() {
        run();
        return deepest;
    }

    int made(int c) {
        run();
        return c >= 0 && c < classes.size() ? made[c] : 0;
    }

    int reach() {
        if (run() != MessageMachine.DONE) {
            return 0;
        }
        Set<Object> seen = new HashSet<>();
        Deque<Object> open = new ArrayDeque<>();
        open.add(result);
        int objects = 0;
        while (!open.isEmpty()) {
            Object next = open.remove();
            if (next instanceof Integer || !seen.add(next)) {
                continue;
            }
            if (next instanceof Obj) {
                objects++;
                open.addAll(List.of(((Obj) next).fields));
            } else if (next instanceof Block) {
                open.add(((Block) next).home.self);
                open.addAll(List.of(((Block) next).home.variables));
            }
        }
        return objects;
    }

    int tidy(int n) {
        return n < 1 || n > 50 ? MessageMachine.BAD_ARG : 0;
    }

    private static void stuckUnless(boolean condition) {
        if (!condition) {
            throw new End(MessageMachine.STUCK);
        }
    }

    private static int number(Object value) {
        stuckUnless(value instanceof Integer);
        return (Integer) value;
    }

    private void turn() {
        if (turns == 200) {
            throw new End(MessageMachine.TIRED);
        }
        turns++;
    }

    private Object[] fields(Activation a, int k) {
        stuckUnless(a.self instanceof Obj && k < ((Obj) a.self).cls.fields);
        return ((Obj) a.self).fields;
    }

    private Object work(Term t, Activation a) {
        switch (t.operator) {
            case "number": return t.k;
            case "nil": return NIL;
            case "self": return a.self;
            case "variable": return a.variables[t.k];
            case "field": return fields(a, t.k)[t.k];
            case "new": turn(); made[t.k]++; return new Obj(classes.get(t.k));
            case "block": turn(); return new Block(a, t.k, t.parts[0]);
            case "choose": return work(number(work(t.parts[0], a)) != 0 ? t.parts[1] : t.parts[2], a);
            case "loop":
                while (number(work(t.parts[0], a)) != 0) {
                    turn();
                    work(t.parts[1], a);
                }
                return NIL;
            default:
                Object[] values = new Object[t.parts.length];
                for (int i = 0; i < values.length; i++) {
                    values[i] = work(t.parts[i], a);
                }
                return workedOut(t, a, values);
        }
    }

    private Object workedOut(Term t, Activation a, Object[] values) {
        switch (t.operator) {
            case "set": a.variables[t.k] = values[0]; return values[0];
            case "set-field": fields(a, t.k)[t.k] = values[0]; return values[0];
            case "is": return values[0] instanceof Obj && ((Obj) values[0]).cls.isBelow(classes.get(t.k)) ? 1 : 0;
            case "call": return call(values[0], false, NIL);
            case "call-with": return call(values[0], true, values[1]);
            case "return":
                stuckUnless(!a.ended);
                throw new Return(a, values[0]);
            case "print":
                number(values[0]);
                if (printed.size() == 20) {
                    throw new End(MessageMachine.FULL_UP);
                }
                printed.add((Integer) values[0]);
                return values[0];
            case "send":
                stuckUnless(values[0] instanceof Obj);
                return activate(((Obj) values[0]).cls, t.k, values[0], values, 1);
            case "super":
                stuckUnless(a.methodOf != null);
                return activate(a.methodOf.parent, t.k, a.self, values, 0);
            case "+": return number(values[0]) + number(values[1]);
            case "-": return number(values[0]) - number(values[1]);
            case "*": return number(values[0]) * number(values[1]);
            case "<": return number(values[0]) < number(values[1]) ? 1 : 0;
            case "=": return values[0].equals(values[1]) ? 1 : 0;
            default: return values[1];
        }
    }

    private void enter() {
        turn();
        if (underWay == 20) {
            throw new End(MessageMachine.DEEP);
        }
        underWay++;
        deepest = Math.max(deepest, underWay);
    }

    private Object call(Object callee, boolean with, Object argument) {
        stuckUnless(callee instanceof Block && ((Block) callee).v >= 0 == with);
        Block block = (Block) callee;
        enter();
        if (with) {
            block.home.variables[block.v] = argument;
        }
        try {
            return work(block.body, block.home);
        } finally {
            underWay--;
        }
    }

    private Object activate(Cls from, int s, Object self, Object[] values, int firstArgument) {
        Cls holder = from == null ? null : from.holder(s);
        stuckUnless(holder != null);
        enter();
        Activation a = new Activation(holder, self);
        System.arraycopy(values, firstArgument, a.variables, 0, values.length - firstArgument);
        try {
            return work(holder.methods[s], a);
        } catch (Return r) {
            if (r.to == a) {
                return r.value;
            }
            throw r;
        } finally {
            a.ended = true;
            underWay--;
        }
    }
}

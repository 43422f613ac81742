/** Promises 1 to 11: the calls that make classes, terms, methods and the main term. */
public final class BuildingTest {
    private static final int BAD_ARG = MessageMachine.BAD_ARG;
    private static final int FULL = MessageMachine.FULL;
    private static final int TOO_FEW = MessageMachine.TOO_FEW;
    private static final int LOWEST = Integer.MIN_VALUE;
    private static final int GREATEST = Integer.MAX_VALUE;
    private static final Check check = new Check();

    public static void main(String[] args) {
        aNewObject(new MessageMachine(), "new");
        newClass();
        leaf();
        one();
        two();
        three();
        leafWhenFull();
        orderWhenFull();
        drop();
        method();
        mainTerm();
        forget();
        partsInOrder();
        check.end();
    }

    private static void aNewObject(MessageMachine m, String what) {
        check.due(what + ": depth", m.depth(), 0);
        check.due(what + ": run", m.run(), MessageMachine.DONE);
        check.due(what + ": kind", m.kind(), 1);
        check.due(what + ": value", m.value(), 0);
        check.due(what + ": printed", m.printed(), 0);
        check.due(what + ": output(0)", m.output(0), 0);
        check.due(what + ": turns", m.turns(), 0);
        check.due(what + ": deepest", m.deepest(), 0);
        check.due(what + ": reach", m.reach(), 0);
        check.due(what + ": made(0)", m.made(0), 0);
        check.due(what + ": leaf(5, 0) without a class", m.leaf(5, 0), BAD_ARG);
        check.due(what + ": method(0, 0) without a class", m.method(0, 0), BAD_ARG);
        check.due(what + ": newClass(0, 0) without a class", m.newClass(0, 0), BAD_ARG);
        check.due(what + ": drop", m.drop(), TOO_FEW);
        check.due(what + ": main", m.main(), TOO_FEW);
    }

    private static void newClass() {
        MessageMachine m = new MessageMachine();
        for (int parent : new int[] {LOWEST, -2, 0, 1, 6, GREATEST}) {
            check.due("newClass(" + parent + ", 0) as the first", m.newClass(parent, 0), BAD_ARG);
        }
        for (int own : new int[] {LOWEST, -1, 5, GREATEST}) {
            check.due("newClass(-1, " + own + ")", m.newClass(-1, own), BAD_ARG);
        }
        check.due("class 0", m.newClass(-1, 1), 0);
        check.due("itself as parent", m.newClass(1, 0), BAD_ARG);
        check.due("class 1", m.newClass(0, 2), 1);
        check.due("2 own and 3 of the parents", m.newClass(1, 2), BAD_ARG);
        check.due("own that wraps with the parents' ones", m.newClass(1, GREATEST), BAD_ARG);
        check.due("class 2", m.newClass(1, 1), 2);
        check.due("one more than 4", m.newClass(2, 1), BAD_ARG);
        check.due("class 3", m.newClass(2, 0), 3);
        check.due("class 4", m.newClass(-1, 4), 4);
        check.due("class 5", m.newClass(-1, 0), 5);
        check.due("a seventh class", m.newClass(-1, 0), FULL);
        check.due("a seventh class with a parent", m.newClass(5, 4), FULL);
        check.due("a seventh class, parent 6", m.newClass(6, 0), BAD_ARG);
        check.due("a seventh class, own 5", m.newClass(-1, 5), BAD_ARG);
        check.due("a seventh class, too many fields", m.newClass(4, 1), BAD_ARG);
        check.due("no class was made by refused calls", m.leaf(5, 6), BAD_ARG);
        check.due("six classes", m.leaf(5, 5), 1);
    }

    private static MessageMachine withTwoClasses(int stacked) {
        MessageMachine m = new MessageMachine();
        m.newClass(-1, 0);
        m.newClass(0, 0);
        for (int i = 0; i < stacked; i++) {
            m.leaf(0, i);
        }
        return m;
    }

    private interface Call {
        int with(MessageMachine m, int kind, int k);
    }

    /** k from low to high is taken, and no other one, whatever is on the stack. */
    private static void range(String name, Call call, int kind, int low, int high, int answer) {
        for (int k : new int[] {LOWEST, low - 1, low, 0, high, high + 1, GREATEST}) {
            boolean fits = low <= k && k <= high;
            check.due(name + "(" + kind + ", " + k + ")", call.with(withTwoClasses(3), kind, k), fits ? answer : BAD_ARG);
        }
    }

    private static void anyK(String name, Call call, int kind, int answer) {
        for (int k : new int[] {LOWEST, -1, 0, 7, GREATEST}) {
            check.due(name + "(" + kind + ", " + k + ")", call.with(withTwoClasses(3), kind, k), answer);
        }
    }

    private static void messages(String name, Call call, int kind, int first, int second, int answer) {
        for (int k : new int[] {LOWEST, -3, -2, -1, 0, 1, 2, 3, 4, 5, 6, 7, 8, GREATEST}) {
            boolean fits = k == first || k == second;
            check.due(name + "(" + kind + ", " + k + ")", call.with(withTwoClasses(3), kind, k), fits ? answer : BAD_ARG);
        }
    }

    private static void noSuchKind(String name, Call call, int kinds) {
        for (int kind : new int[] {LOWEST, -1, kinds, kinds + 1, GREATEST}) {
            MessageMachine m = withTwoClasses(3);
            check.due(name + "(" + kind + ", 0)", call.with(m, kind, 0), BAD_ARG);
            check.due(name + "(" + kind + ", 0) on an empty stack", call.with(withTwoClasses(0), kind, 0), BAD_ARG);
            check.due("depth after a refused call", m.depth(), 3);
        }
    }

    private static void leaf() {
        Call leaf = MessageMachine::leaf;
        range("leaf", leaf, 0, -99, 99, 4);
        anyK("leaf", leaf, 1, 4);
        anyK("leaf", leaf, 2, 4);
        range("leaf", leaf, 3, 0, 5, 4);
        range("leaf", leaf, 4, 0, 3, 4);
        range("leaf", leaf, 5, 0, 1, 4);
        messages("leaf", leaf, 6, 0, 3, 4);
        noSuchKind("leaf", leaf, 7);
    }

    private static void one() {
        Call one = MessageMachine::one;
        range("one", one, 0, 0, 5, 3);
        range("one", one, 1, 0, 3, 3);
        range("one", one, 2, 0, 1, 3);
        range("one", one, 3, -1, 5, 3);
        anyK("one", one, 4, 3);
        anyK("one", one, 5, 3);
        anyK("one", one, 6, 3);
        messages("one", one, 7, 0, 3, 3);
        messages("one", one, 8, 1, 4, 3);
        noSuchKind("one", one, 9);
        check.due("one on an empty stack", withTwoClasses(0).one(4, 0), TOO_FEW);
        check.due("one out of range on an empty stack", withTwoClasses(0).one(0, 6), BAD_ARG);
        check.due("one on a stack of one", withTwoClasses(1).one(4, 0), 1);
    }

    private static void two() {
        Call two = MessageMachine::two;
        for (int kind = 0; kind <= 7; kind++) {
            anyK("two", two, kind, 2);
        }
        messages("two", two, 8, 1, 4, 2);
        messages("two", two, 9, 2, 5, 2);
        noSuchKind("two", two, 10);
        check.due("two on an empty stack", withTwoClasses(0).two(0, 0), TOO_FEW);
        MessageMachine m = withTwoClasses(1);
        check.due("two on a stack of one", m.two(0, 0), TOO_FEW);
        check.due("depth after it", m.depth(), 1);
        check.due("two out of range on a stack of one", m.two(8, 2), BAD_ARG);
        check.due("two on a stack of two", withTwoClasses(2).two(0, 0), 1);
    }

    private static void three() {
        Call three = MessageMachine::three;
        anyK("three", three, 0, 1);
        messages("three", three, 1, 2, 5, 1);
        noSuchKind("three", three, 2);
        check.due("three on an empty stack", withTwoClasses(0).three(0, 0), TOO_FEW);
        MessageMachine m = withTwoClasses(2);
        check.due("three on a stack of two", m.three(0, 0), TOO_FEW);
        check.due("depth after it", m.depth(), 2);
        check.due("three out of range on a stack of two", m.three(1, 0), BAD_ARG);
        check.due("three on a stack of eight", withTwoClasses(8).three(0, 0), 6);
    }

    private static void leafWhenFull() {
        MessageMachine m = withTwoClasses(0);
        for (int i = 1; i <= 8; i++) {
            check.due("leaf " + i, m.leaf(0, i), i);
        }
        check.due("a ninth on the stack", m.leaf(0, 9), FULL);
        check.due("a ninth out of range", m.leaf(0, 100), BAD_ARG);
        check.due("one on a stack of eight", m.one(6, 0), 8);
        check.due("depth", m.depth(), 8);
        check.due("drop", m.drop(), 7);
        check.due("room again", m.leaf(0, 9), 8);
    }

    /** A machine where 100 terms are kept, with some on the stack. */
    private static MessageMachine withAllTerms(int stacked) {
        MessageMachine m = withTwoClasses(0);
        for (int i = 0; i < 100 - stacked; i++) {
            m.leaf(0, 1);
            m.drop();
        }
        for (int i = 1; i <= stacked; i++) {
            check.due("term " + (100 - stacked + i), m.leaf(0, 1), i);
        }
        return m;
    }

    private static void orderWhenFull() {
        for (int stacked = 0; stacked <= 3; stacked++) {
            MessageMachine m = withAllTerms(stacked);
            check.due("a 101st leaf", m.leaf(1, 0), FULL);
            check.due("a 101st one", m.one(4, 0), FULL);
            check.due("a 101st two", m.two(0, 0), FULL);
            check.due("a 101st three", m.three(0, 0), FULL);
            check.due("a 101st leaf out of range", m.leaf(3, 6), BAD_ARG);
            check.due("a 101st one out of range", m.one(0, 6), BAD_ARG);
            check.due("a 101st two out of range", m.two(9, 1), BAD_ARG);
            check.due("a 101st three out of range", m.three(2, 0), BAD_ARG);
            check.due("depth after them", m.depth(), stacked);
        }
        MessageMachine m = withAllTerms(2);
        check.due("method", m.method(0, 0), 1);
        check.due("a method's terms are kept", m.leaf(1, 0), FULL);
        check.due("main", m.main(), 0);
        check.due("the main term's terms are kept", m.leaf(1, 0), FULL);
        m.forget();
        check.due("room after forget", m.leaf(1, 0), 1);
        mixedTerms();
    }

    private static void mixedTerms() {
        MessageMachine m = withTwoClasses(0);
        for (int i = 0; i < 25; i++) {
            check.due("leaf", m.leaf(0, 1), 1);
            check.due("leaf", m.leaf(0, 1), 2);
            check.due("two", m.two(0, 0), 1);
            check.due("one", m.one(6, 0), 1);
            check.due("drop", m.drop(), 0);
        }
        check.due("each call that pushes keeps one term", m.leaf(0, 1), FULL);
    }

    private static void drop() {
        MessageMachine m = withTwoClasses(2);
        check.due("drop", m.drop(), 1);
        check.due("depth", m.depth(), 1);
        m.main();
        check.due("the top was dropped", m.value(), 0);
        check.due("drop on an empty stack", m.drop(), TOO_FEW);
        check.due("depth", m.depth(), 0);
    }

    private static void method() {
        MessageMachine m = withTwoClasses(2);
        for (int c : new int[] {LOWEST, -1, 2, 6, GREATEST}) {
            check.due("method(" + c + ", 0)", m.method(c, 0), BAD_ARG);
        }
        for (int s : new int[] {LOWEST, -1, 6, GREATEST}) {
            check.due("method(0, " + s + ")", m.method(0, s), BAD_ARG);
        }
        check.due("depth after them", m.depth(), 2);
        check.due("method(1, 5)", m.method(1, 5), 1);
        check.due("method(0, 0)", m.method(0, 0), 0);
        check.due("method on an empty stack", m.method(0, 0), TOO_FEW);
        check.due("method out of range on an empty stack", m.method(2, 0), BAD_ARG);
        new Program(m).main("(send 5 (new 1) 7 8)");
        check.due("the top is the method", m.value(), 1);
        new Program(m).main("(send 0 (new 0))");
        check.due("the term under it is the next one", m.value(), 0);
        new Program(m).method(0, 0, "33");
        check.due("replaced", m.value(), 33);
        for (int s = 0; s < 6; s++) {
            new Program(m).method(0, s, "" + (10 + s));
            new Program(m).method(1, s, "" + (20 + s));
        }
        new Program(m).main("(+ (* (send 0 (new 0)) 100) (send 0 (new 1)))".replace("100", "99"));
        check.due("each class has its own methods", m.value(), 10 * 99 + 20);
        new Program(m).main("(+ (* (send 3 (new 0)) 99) (send 3 (new 1)))");
        check.due("each message has its own method", m.value(), 13 * 99 + 23);
    }

    private static void mainTerm() {
        MessageMachine m = withTwoClasses(3);
        check.due("main", m.main(), 2);
        check.due("the top is the main term", m.value(), 2);
        check.due("main", m.main(), 1);
        check.due("replaced", m.value(), 1);
        check.due("main", m.main(), 0);
        check.due("main on an empty stack", m.main(), TOO_FEW);
        check.due("the main term stays", m.kind(), 2);
    }

    private static void forget() {
        MessageMachine m = withTwoClasses(0);
        new Program(m).method(0, 0, "(print 5)").method(1, 3, "6").main("(send 0 (new 1))").push("7").push("8");
        check.due("before forget", m.printed(), 1);
        m.forget();
        aNewObject(m, "after forget");
        check.due("class 0 anew", m.newClass(-1, 0), 0);
        check.due("class 1 anew", m.newClass(0, 4), 1);
        new Program(m).main("(send 0 (new 0))");
        check.due("the method is forgotten", m.run(), MessageMachine.STUCK);
        new Program(m).main("(send 3 (new 1))");
        check.due("the other method is forgotten", m.run(), MessageMachine.STUCK);
        m.forget();
        m.forget();
        aNewObject(m, "forgotten twice");
        for (int i = 0; i < 100; i++) {
            check.due("100 terms anew", m.leaf(1, 0), 1);
            m.drop();
        }
        check.due("a 101st", m.leaf(1, 0), FULL);
    }

    /** The parts of a term are in the order in which they were pushed. */
    private static void partsInOrder() {
        check.due("X - Y", Program.ofMain("(- 7 2)").value(), 5);
        check.due("X < Y", Program.ofMain("(< 7 2)").value(), 0);
        check.due("choose 1", Program.ofMain("(choose 1 5 6)").value(), 5);
        check.due("choose 0", Program.ofMain("(choose 0 5 6)").value(), 6);
        MessageMachine m = withTwoClasses(0);
        new Program(m).method(0, 2, "(- v0 v1)").method(1, 5, "(super 2 v1 v0)").main("(send 2 (new 0) 9 4)");
        check.due("send 2 with two", m.value(), 5);
        new Program(m).main("(send 5 (new 1) 9 4)");
        check.due("super 2 with two", m.value(), -5);
    }
}

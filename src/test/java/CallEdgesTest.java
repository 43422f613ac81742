import java.util.List;
import java.util.function.Function;
import java.util.function.Supplier;

/** The boundary cases that the document names for the calls that build: promises 1 to 11 and 21, one sentence after the other. */
public final class CallEdgesTest {
    private static final int BAD_ARG = MessageMachine.BAD_ARG;
    private static final int FULL = MessageMachine.FULL;
    private static final int TOO_FEW = MessageMachine.TOO_FEW;
    private static final int LOWEST = Integer.MIN_VALUE;
    private static final int GREATEST = Integer.MAX_VALUE;
    private static final Check check = new Check();

    public static void main(String[] args) {
        aNewObject();
        classesInOrder();
        parentOfNewClass();
        ownOfNewClass();
        fieldsOfNewClass();
        sixClasses();
        newClassRefused();
        leafArguments();
        leafOfAClass();
        leafWhenFull();
        oneArguments();
        oneOfAClass();
        oneWhenFullOrTooFew();
        twoArguments();
        twoWhenFullOrTooFew();
        threeArguments();
        threeWhenFullOrTooFew();
        stackOfEight();
        keptTerms();
        drop();
        methodArguments();
        methodTooFew();
        methodReplaced();
        mainTerm();
        forget();
        depth();
        tidy();
        check.end();
    }

    private interface Call {
        int on(MessageMachine m, int a, int b);
    }

    private static final Call NEW_CLASS = MessageMachine::newClass;
    private static final Call LEAF = MessageMachine::leaf;
    private static final Call ONE = MessageMachine::one;
    private static final Call TWO = MessageMachine::two;
    private static final Call THREE = MessageMachine::three;
    private static final Call METHOD = MessageMachine::method;

    // Each kind with the first and the last k that is taken, or with any k where k does not matter.
    private static final int[][] LEAF_TAKEN = {
        {0, -99}, {0, -98}, {0, -1}, {0, 0}, {0, 98}, {0, 99},
        {1, LOWEST}, {1, -1}, {1, 0}, {1, 100}, {1, GREATEST}, {2, LOWEST}, {2, -1}, {2, 0}, {2, 100}, {2, GREATEST},
        {3, 0}, {3, 1}, {3, 4}, {3, 5}, {4, 0}, {4, 1}, {4, 2}, {4, 3}, {5, 0}, {5, 1}, {5, 2}, {5, 3}, {6, 0}, {6, 3},
    };
    private static final int[][] LEAF_REFUSED = {
        {LOWEST, 0}, {-1, 0}, {7, 0}, {8, 0}, {GREATEST, 0}, {-1, 3}, {7, 3},
        {0, LOWEST}, {0, -101}, {0, -100}, {0, 100}, {0, 101}, {0, GREATEST},
        {3, LOWEST}, {3, -1}, {3, 6}, {3, GREATEST}, {4, LOWEST}, {4, -1}, {4, 4}, {4, GREATEST},
        {5, LOWEST}, {5, -1}, {5, 4}, {5, 6}, {5, GREATEST},
        {6, LOWEST}, {6, -3}, {6, -1}, {6, 1}, {6, 2}, {6, 4}, {6, 5}, {6, 6}, {6, 9}, {6, GREATEST},
    };
    private static final int[][] ONE_TAKEN = {
        {0, 0}, {0, 1}, {0, 4}, {0, 5}, {1, 0}, {1, 1}, {1, 2}, {1, 3}, {2, 0}, {2, 1}, {2, 2}, {2, 3},
        {3, -1}, {3, 0}, {3, 4}, {3, 5}, {4, LOWEST}, {4, -1}, {4, 100}, {4, GREATEST}, {5, LOWEST}, {5, -1}, {5, 100}, {5, GREATEST},
        {6, LOWEST}, {6, -1}, {6, 100}, {6, GREATEST}, {7, 0}, {7, 3}, {8, 1}, {8, 4},
    };
    private static final int[][] ONE_REFUSED = {
        {LOWEST, 1}, {-1, 0}, {-1, 1}, {9, 0}, {9, 1}, {GREATEST, 0},
        {0, LOWEST}, {0, -1}, {0, 6}, {0, GREATEST}, {1, LOWEST}, {1, -1}, {1, 4}, {1, GREATEST},
        {2, LOWEST}, {2, -1}, {2, 4}, {2, GREATEST}, {3, LOWEST}, {3, -2}, {3, 6}, {3, GREATEST},
        {7, LOWEST}, {7, -3}, {7, -1}, {7, 1}, {7, 2}, {7, 4}, {7, 5}, {7, 6}, {7, GREATEST},
        {8, LOWEST}, {8, -2}, {8, -1}, {8, 0}, {8, 2}, {8, 3}, {8, 5}, {8, 6}, {8, 7}, {8, GREATEST},
    };
    private static final int[][] TWO_TAKEN = {
        {0, LOWEST}, {0, GREATEST}, {1, -1}, {1, 100}, {2, LOWEST}, {2, GREATEST}, {3, -1}, {3, 100}, {4, LOWEST}, {4, GREATEST},
        {5, -1}, {5, 100}, {6, LOWEST}, {6, GREATEST}, {7, LOWEST}, {7, -1}, {7, 6}, {7, GREATEST}, {8, 1}, {8, 4}, {9, 2}, {9, 5},
    };
    private static final int[][] TWO_REFUSED = {
        {LOWEST, 1}, {-1, 0}, {-1, 1}, {10, 0}, {10, 1}, {10, 2}, {GREATEST, 2},
        {8, LOWEST}, {8, -2}, {8, -1}, {8, 0}, {8, 2}, {8, 3}, {8, 5}, {8, 6}, {8, 7}, {8, GREATEST},
        {9, LOWEST}, {9, -1}, {9, 0}, {9, 1}, {9, 3}, {9, 4}, {9, 6}, {9, 8}, {9, GREATEST},
    };
    private static final int[][] THREE_TAKEN = {
        {0, LOWEST}, {0, -1}, {0, 0}, {0, 6}, {0, GREATEST}, {1, 2}, {1, 5},
    };
    private static final int[][] THREE_REFUSED = {
        {LOWEST, 2}, {-1, 0}, {-1, 2}, {2, 0}, {2, 2}, {3, 2}, {GREATEST, 2},
        {1, LOWEST}, {1, -1}, {1, 0}, {1, 1}, {1, 3}, {1, 4}, {1, 6}, {1, 8}, {1, GREATEST},
    };

    private static void refused(String name, Call call, int a, int b, String where, Supplier<MessageMachine> made, int code) {
        check.refused(name + "(" + a + ", " + b + ") " + where, made, m -> call.on(m, a, b), code);
    }

    /** Whatever else would be refused too, an argument out of its range is told first, and nothing changes. */
    private static void allBad(String name, Call call, int[][] pairs) {
        for (int[] pair : pairs) {
            refused(name, call, pair[0], pair[1], "with room and terms", () -> Machines.rich(3), BAD_ARG);
            refused(name, call, pair[0], pair[1], "on an empty stack", () -> Machines.rich(0), BAD_ARG);
            refused(name, call, pair[0], pair[1], "on a full stack", () -> Machines.rich(8), BAD_ARG);
            refused(name, call, pair[0], pair[1], "with 100 terms", () -> Machines.full(3), BAD_ARG);
            refused(name, call, pair[0], pair[1], "with 100 terms and an empty stack", () -> Machines.full(0), BAD_ARG);
            refused(name, call, pair[0], pair[1], "with 100 terms and a full stack", () -> Machines.full(8), BAD_ARG);
        }
    }

    private static void allTaken(String name, Call call, int[][] pairs, int taken) {
        for (int[] pair : pairs) {
            for (int stacked = taken; stacked <= (taken == 0 ? 7 : 8); stacked++) {
                MessageMachine m = Machines.rich(stacked);
                String what = name + "(" + pair[0] + ", " + pair[1] + ") on a stack of " + stacked;
                check.due(what, call.on(m, pair[0], pair[1]), stacked - taken + 1);
                check.due("depth after " + what, m.depth(), stacked - taken + 1);
            }
        }
    }

    /** With 99 terms kept one more is made, with 100 none. */
    private static void allFull(String name, Call call, int[][] pairs, int taken) {
        for (int[] pair : pairs) {
            MessageMachine m = Machines.keeping(99, taken);
            check.due(name + "(" + pair[0] + ", " + pair[1] + ") as the 100th term", call.on(m, pair[0], pair[1]), 1);
            check.due("a 101st after it", m.leaf(1, 0), FULL);
            check.due("depth after it", m.depth(), 1);
            refused(name, call, pair[0], pair[1], "as the 101st term", () -> Machines.full(taken), FULL);
            refused(name, call, pair[0], pair[1], "as the 101st term, with more on the stack", () -> Machines.full(5), FULL);
        }
    }

    private static void allTooFew(String name, Call call, int[][] pairs, int needed) {
        for (int[] pair : pairs) {
            for (int n = 0; n < needed; n++) {
                int stacked = n;
                refused(name, call, pair[0], pair[1], "on a stack of " + stacked, () -> Machines.rich(stacked), TOO_FEW);
                refused(name, call, pair[0], pair[1], "on a stack of " + stacked + ", 99 kept", () -> Machines.keeping(99, stacked), TOO_FEW);
                refused(name, call, pair[0], pair[1], "on a stack of " + stacked + ", 100 kept", () -> Machines.full(stacked), FULL);
            }
        }
    }

    private static void aNewObject() {
        check.said("No class, no method, the main term is nil, the stack is empty.");
        check.due("depth", new MessageMachine().depth(), 0);
        check.due("run", new MessageMachine().run(), MessageMachine.DONE);
        check.due("kind", new MessageMachine().kind(), 1);
        check.due("value", new MessageMachine().value(), 0);
        check.due("turns", new MessageMachine().turns(), 0);
        check.due("deepest", new MessageMachine().deepest(), 0);
        check.due("printed", new MessageMachine().printed(), 0);
        check.due("output(0)", new MessageMachine().output(0), 0);
        check.due("reach", new MessageMachine().reach(), 0);
        check.due("made(0)", new MessageMachine().made(0), 0);
        refused("newClass", NEW_CLASS, 0, 0, "on a new object", MessageMachine::new, BAD_ARG);
        refused("leaf", LEAF, 5, 0, "on a new object", MessageMachine::new, BAD_ARG);
        refused("one", ONE, 2, 0, "on a new object", MessageMachine::new, BAD_ARG);
        refused("method", METHOD, 0, 0, "on a new object", MessageMachine::new, BAD_ARG);
        for (int s = 0; s < 6; s++) {
            MessageMachine m = Program.of("class -1 0", "main " + send(s, "(new 0)"));
            check.due("the first class has no method for " + s, m.run(), MessageMachine.STUCK);
        }
        MessageMachine used = Machines.rich(3);
        MessageMachine other = new MessageMachine();
        check.due("another object has its own stack", other.depth(), 0);
        check.due("another object has its own main term", other.kind(), 1);
        check.due("another object has its own classes", other.leaf(5, 0), BAD_ARG);
        check.due("the used one stays", used.depth(), 3);
    }

    private static String send(int s, String receiver) {
        return "(send " + s + " " + receiver + (s % 3 > 0 ? " 1" : "") + (s % 3 > 1 ? " 2" : "") + ")";
    }

    private static void classesInOrder() {
        check.said("CLASSES are numbered 0, 1, .. in the order in which they were made, at most 6; a class may have a class made earlier as its PARENT.");
        MessageMachine m = new MessageMachine();
        for (int c = 0; c < 6; c++) {
            check.due("class " + c + " as its own parent", m.newClass(c, 0), BAD_ARG);
            check.due("a class made later as the parent of class " + c, m.newClass(c + 1, 0), BAD_ARG);
            check.due("class " + c + " with the first one as parent", m.newClass(c == 0 ? -1 : 0, 0), c);
        }
        check.due("a seventh", m.newClass(0, 0), FULL);
        for (int c = 0; c < 6; c++) {
            new Program(m).main("(is 0 (new " + c + "))");
            check.due("class " + c + " has the first one as parent", m.value(), 1);
            check.due("an object of class " + c, m.made(c), 1);
        }
    }

    private static void parentOfNewClass() {
        check.said("Tested in this order: parent not -1 or a class, own not 0 to 4, or its objects would have more than 4 fields, answers BAD_ARG;");
        for (int n = 0; n <= 6; n++) {
            int count = n;
            Supplier<MessageMachine> made = () -> Machines.withClasses(count);
            for (int parent : new int[] {LOWEST, -7, -2, count, count + 1, 6, 7, GREATEST}) {
                if (parent < 0 || parent >= count) {
                    refused("newClass", NEW_CLASS, parent, 0, "with " + count + " classes", made, BAD_ARG);
                }
            }
            for (int parent = -1; parent < count && count < 6; parent++) {
                check.due("newClass(" + parent + ", 0) with " + count + " classes", made.get().newClass(parent, 0), count);
            }
        }
    }

    private static void ownOfNewClass() {
        for (int own : new int[] {LOWEST, LOWEST + 4, -4, -1, 5, 6, GREATEST - 4, GREATEST}) {
            refused("newClass", NEW_CLASS, -1, own, "on a new object", MessageMachine::new, BAD_ARG);
            refused("newClass", NEW_CLASS, 3, own, "below a class of 4 fields", () -> Machines.rich(1), BAD_ARG);
            refused("newClass", NEW_CLASS, 0, own, "below a class of 2 fields", () -> Machines.rich(1), BAD_ARG);
        }
        for (int own = 0; own <= 4; own++) {
            check.due("newClass(-1, " + own + ")", new MessageMachine().newClass(-1, own), 0);
        }
    }

    private static void fieldsOfNewClass() {
        for (int above = 0; above <= 4; above++) {
            for (int between = 0; above + between <= 4; between++) {
                String[] lines = {"class -1 " + above, "class 0 " + between};
                for (int own = 0; own <= 4; own++) {
                    String what = "with " + above + " and " + between + " above";
                    if (above + between + own <= 4) {
                        check.due("newClass(1, " + own + ") " + what, Program.of(lines).newClass(1, own), 2);
                    } else {
                        refused("newClass", NEW_CLASS, 1, own, what, () -> Program.of(lines), BAD_ARG);
                    }
                }
            }
        }
        MessageMachine m = Program.of("class -1 4", "class -1 4", "class -1 4");
        check.due("fields of other classes do not count", m.newClass(-1, 4), 3);
        check.due("four above and none own", m.newClass(3, 0), 4);
    }

    private static void sixClasses() {
        check.said("there are 6 answers FULL. Otherwise its number.");
        MessageMachine m = new MessageMachine();
        for (int c = 0; c < 6; c++) {
            check.due("newClass number " + c, m.newClass(c - 1, 0), c);
        }
        for (int parent = -1; parent < 6; parent++) {
            check.due("a seventh class below " + parent, m.newClass(parent, 0), FULL);
            check.due("a seventh class below " + parent, m.newClass(parent, 4), FULL);
        }
        for (int own = 0; own <= 4; own++) {
            refused("newClass", NEW_CLASS, -1, own, "as the seventh", () -> Machines.sixClasses(2), FULL);
        }
        refused("newClass", NEW_CLASS, 4, 4, "as the seventh", () -> Machines.sixClasses(2), FULL);
        refused("newClass", NEW_CLASS, 0, 2, "as the seventh", () -> Machines.sixClasses(2), FULL);
        m.forget();
        check.due("the first after forget", m.newClass(-1, 0), 0);
        check.due("100 terms do not keep from it", Machines.full(8).newClass(3, 0), 4);
    }

    private static void newClassRefused() {
        check.said("No call ever throws. A refused call answers the code named and changes nothing.");
        Supplier<MessageMachine> six = () -> Machines.sixClasses(2);
        refused("newClass", NEW_CLASS, -2, 0, "as the seventh", six, BAD_ARG);
        refused("newClass", NEW_CLASS, 6, 0, "as the seventh", six, BAD_ARG);
        refused("newClass", NEW_CLASS, -1, -1, "as the seventh", six, BAD_ARG);
        refused("newClass", NEW_CLASS, -1, 5, "as the seventh", six, BAD_ARG);
        refused("newClass", NEW_CLASS, 3, 1, "as the seventh", six, BAD_ARG);
        refused("newClass", NEW_CLASS, 5, 1, "as the seventh", six, BAD_ARG);
        refused("newClass", NEW_CLASS, 2, 2, "as the seventh", six, BAD_ARG);
    }

    private static void leafArguments() {
        check.said("by kind, 0: number k (-99 to 99), 1: nil, 2: self, 3: variable k (0 to 5), 4: field k (0 to 3), 5: new k (a class),"
            + " 6: super k (message 0 or 3). k does not matter for 1 and 2.");
        allTaken("leaf", LEAF, LEAF_TAKEN, 0);
        allBad("leaf", LEAF, LEAF_REFUSED);
        for (int k : new int[] {-99, -1, 0, 1, 99}) {
            check.due("number " + k, Program.ofMain("" + k).value(), k);
        }
        for (int k : new int[] {LOWEST, -1, 0, 5, GREATEST}) {
            MessageMachine m = new MessageMachine();
            m.leaf(1, k);
            m.main();
            check.due("leaf(1, " + k + ") is nil", m.kind(), 1);
            m = Program.of("class -1 0", "main (send 0 (new 0))");
            m.leaf(2, k);
            m.method(0, 0);
            check.due("leaf(2, " + k + ") is the self", m.kind(), 4);
        }
    }

    private static void leafOfAClass() {
        check.said("5: new k (a class)");
        for (int n = 0; n <= 6; n++) {
            int count = n;
            for (int k : new int[] {LOWEST, -1, count, 6, GREATEST}) {
                refused("leaf", LEAF, 5, k, "with " + count + " classes", () -> Machines.withClasses(count), BAD_ARG);
            }
            for (int k = 0; k < count; k++) {
                MessageMachine m = Machines.withClasses(count);
                check.due("leaf(5, " + k + ") with " + count + " classes", m.leaf(5, k), 1);
                m.main();
                check.due("it is of class " + k, m.kind(), 4 + k);
            }
        }
    }

    private static void leafWhenFull() {
        check.said("Tested in this order: kind or k out of its range answers BAD_ARG; 100 terms are kept, or the stack holds 8, answers FULL."
            + " Otherwise the number on the stack.");
        allFull("leaf", LEAF, LEAF_TAKEN, 0);
        for (int[] pair : LEAF_TAKEN) {
            refused("leaf", LEAF, pair[0], pair[1], "on a full stack", () -> Machines.rich(8), FULL);
            refused("leaf", LEAF, pair[0], pair[1], "on a full stack, 99 kept", () -> Machines.keeping(99, 8), FULL);
            refused("leaf", LEAF, pair[0], pair[1], "on a full stack, 100 kept", () -> Machines.full(8), FULL);
        }
    }

    private static void oneArguments() {
        check.said("Puts, in place of the top X, by kind, 0: set k X (0 to 5), 1: set-field k X (0 to 3), 2: is k X (a class),"
            + " 3: block k X (-1 for none, to 5), 4: call X, 5: return X, 6: print X, 7: send k X (message 0 or 3),"
            + " 8: super k X (message 1 or 4). k does not matter for 4, 5 and 6.");
        allTaken("one", ONE, ONE_TAKEN, 1);
        allBad("one", ONE, ONE_REFUSED);
        for (int k : new int[] {LOWEST, -1, 0, 5, GREATEST}) {
            check.due("one(4, " + k + ") is a call", ofOne("(block -1 5)", 4, k).value(), 5);
            check.due("one(5, " + k + ") is a return", ofOne("5", 5, k).value(), 5);
            check.due("one(6, " + k + ") is a print", ofOne("5", 6, k).printed(), 1);
        }
    }

    private static MessageMachine ofOne(String part, int kind, int k) {
        MessageMachine m = Program.of("push " + part);
        m.one(kind, k);
        m.main();
        return m;
    }

    private static void oneOfAClass() {
        check.said("2: is k X (a class)");
        for (int n = 0; n <= 6; n++) {
            int count = n;
            for (int k : new int[] {LOWEST, -1, count, 6, GREATEST}) {
                refused("one", ONE, 2, k, "with " + count + " classes", () -> stacking(count), BAD_ARG);
            }
            for (int k = 0; k < count; k++) {
                check.due("one(2, " + k + ") with " + count + " classes", stacking(count).one(2, k), 1);
            }
        }
    }

    private static MessageMachine stacking(int classes) {
        MessageMachine m = Machines.withClasses(classes);
        m.leaf(0, 9);
        return m;
    }

    private static void oneWhenFullOrTooFew() {
        check.said("Tested in this order: kind or k out of its range answers BAD_ARG; 100 terms are kept answers FULL; TOO_FEW."
            + " Otherwise the number on the stack.");
        allFull("one", ONE, ONE_TAKEN, 1);
        allTooFew("one", ONE, ONE_TAKEN, 1);
    }

    private static void twoArguments() {
        check.said("Takes X and Y off (Y the top) and pushes, by kind, 0: X + Y, 1: X - Y, 2: X * Y, 3: X < Y, 4: X = Y, 5: X then Y,"
            + " 6: loop X Y, 7: call X with Y, 8: send k X Y (message 1 or 4), 9: super k X Y (message 2 or 5)."
            + " k does not matter for 0 to 7.");
        allTaken("two", TWO, TWO_TAKEN, 2);
        allBad("two", TWO, TWO_REFUSED);
        int[] due = {10, 4, 21, 0, 0, 3};
        for (int k : new int[] {LOWEST, -1, 0, 1, 6, GREATEST}) {
            for (int kind = 0; kind < due.length; kind++) {
                check.due("two(" + kind + ", " + k + ") of 7 and 3", ofTwo("7", "3", kind, k).value(), due[kind]);
            }
            check.due("two(6, " + k + ") is a loop", ofTwo("0", "(print 3)", 6, k).kind(), 1);
            check.due("two(7, " + k + ") is a call", ofTwo("(block 4 v4)", "3", 7, k).value(), 3);
        }
    }

    private static MessageMachine ofTwo(String first, String second, int kind, int k) {
        MessageMachine m = Program.of("push " + first, "push " + second);
        m.two(kind, k);
        m.main();
        return m;
    }

    private static void twoWhenFullOrTooFew() {
        check.said("100 terms are kept answers FULL; fewer than two answers TOO_FEW. Otherwise the number on the stack.");
        allFull("two", TWO, TWO_TAKEN, 2);
        allTooFew("two", TWO, TWO_TAKEN, 2);
    }

    private static void threeArguments() {
        check.said("Takes X, Y and Z off (Z the top) and pushes, by kind, 0: choose X Y Z, 1: send k X Y Z (message 2 or 5)."
            + " k does not matter for 0.");
        allTaken("three", THREE, THREE_TAKEN, 3);
        allBad("three", THREE, THREE_REFUSED);
        for (int k : new int[] {LOWEST, -1, 0, 2, GREATEST}) {
            MessageMachine m = Program.of("push 0", "push 4", "push 5");
            m.three(0, k);
            m.main();
            check.due("three(0, " + k + ") is a choose", m.value(), 5);
        }
    }

    private static void threeWhenFullOrTooFew() {
        check.said("100 terms are kept answers FULL; fewer than three answers TOO_FEW. Otherwise the number on the stack.");
        allFull("three", THREE, THREE_TAKEN, 3);
        allTooFew("three", THREE, THREE_TAKEN, 3);
    }

    private static void stackOfEight() {
        check.said("or the stack holds 8, answers FULL");
        MessageMachine m = new MessageMachine();
        for (int i = 1; i <= 8; i++) {
            check.due("leaf " + i, m.leaf(0, i), i);
        }
        check.due("a ninth", m.leaf(0, 9), FULL);
        check.due("one on eight", m.one(6, 0), 8);
        check.due("two on eight", m.two(5, 0), 7);
        check.due("an eighth again", m.leaf(0, 9), 8);
        check.due("a ninth again", m.leaf(0, 9), FULL);
        check.due("three on eight", m.three(0, 0), 6);
        check.due("a seventh", m.leaf(0, 9), 7);
        check.due("drop", m.drop(), 6);
        for (int i = 6; i >= 1; i--) {
            check.due("main", m.main(), i - 1);
        }
        check.due("the lowest is the first", m.value(), 1);
    }

    private static void keptTerms() {
        check.said("(Terms are kept from when they are made until forget is called.)");
        MessageMachine m = Machines.full(8);
        for (int i = 7; i >= 0; i--) {
            check.due("drop", m.drop(), i);
            check.due("a dropped term is kept", m.leaf(1, 0), FULL);
        }
        m = Machines.full(4);
        check.due("main", m.main(), 3);
        check.due("main again", m.main(), 2);
        check.due("a main term that was replaced is kept", m.leaf(1, 0), FULL);
        check.due("method", m.method(0, 0), 1);
        check.due("method again", m.method(0, 0), 0);
        check.due("a method that was replaced is kept", m.leaf(1, 0), FULL);
        m.run();
        m.tidy(1);
        check.due("terms are kept over a run and over tidy", m.leaf(1, 0), FULL);
        m.forget();
        for (int i = 1; i <= 100; i++) {
            check.due("term " + i + " after forget", m.leaf(1, 0), 1);
            m.drop();
        }
        check.due("a 101st after forget", m.leaf(1, 0), FULL);
        keptByEachCall();
    }

    /** Each call that pushes makes one term, and its parts count on. */
    private static void keptByEachCall() {
        MessageMachine m = new MessageMachine();
        for (int i = 0; i < 14; i++) {
            m.leaf(0, 1);
            m.leaf(0, 2);
            m.leaf(0, 3);
            m.three(0, 0);
            m.leaf(0, 4);
            m.two(0, 0);
            m.one(6, 0);
            check.due("after " + (7 * i + 7) + " terms", m.drop(), 0);
        }
        check.due("the 99th", m.leaf(0, 1), 1);
        check.due("the 100th", m.one(6, 0), 1);
        check.due("a 101st", m.one(6, 0), FULL);
    }

    private static void drop() {
        check.said("Takes the top off the stack (its terms still count as kept). TOO_FEW if the stack is empty. Otherwise the number on the stack.");
        check.refused("drop on a new object", MessageMachine::new, MessageMachine::drop, TOO_FEW);
        check.refused("drop on an empty stack", () -> Machines.rich(0), MessageMachine::drop, TOO_FEW);
        check.refused("drop on an empty stack, 100 kept", () -> Machines.full(0), MessageMachine::drop, TOO_FEW);
        for (int stacked = 1; stacked <= 8; stacked++) {
            MessageMachine m = Machines.rich(stacked);
            check.due("drop on a stack of " + stacked, m.drop(), stacked - 1);
            check.due("depth after it", m.depth(), stacked - 1);
            if (stacked > 1) {
                m.main();
                check.due("the one below is the top", m.value(), 40 + stacked - 1);
            }
        }
    }

    private static void methodArguments() {
        check.said("Tested in this order: c no class or s not 0 to 5 answers BAD_ARG; TOO_FEW. Otherwise the number on the stack.");
        int[][] bad = {
            {LOWEST, 0}, {-1, 0}, {4, 0}, {5, 0}, {6, 0}, {GREATEST, 0}, {0, LOWEST}, {0, -1}, {0, 6}, {0, 7}, {0, GREATEST},
            {3, -1}, {3, 6}, {-1, -1}, {4, 6},
        };
        for (int[] pair : bad) {
            refused("method", METHOD, pair[0], pair[1], "with terms", () -> Machines.rich(2), BAD_ARG);
            refused("method", METHOD, pair[0], pair[1], "on an empty stack", () -> Machines.rich(0), BAD_ARG);
        }
        for (int n = 0; n <= 6; n++) {
            int count = n;
            refused("method", METHOD, count, 0, "with " + count + " classes", () -> stacking(count), BAD_ARG);
            if (count > 0) {
                check.due("method of the last of " + count + " classes", stacking(count).method(count - 1, 0), 0);
            }
        }
        for (int c = 0; c < 4; c++) {
            for (int s = 0; s < 6; s++) {
                check.due("method(" + c + ", " + s + ")", Machines.rich(1).method(c, s), 0);
                check.due("method(" + c + ", " + s + ") with 100 terms kept", Machines.full(8).method(c, s), 7);
            }
        }
    }

    private static void methodTooFew() {
        for (int c = 0; c < 4; c++) {
            for (int s = 0; s < 6; s++) {
                refused("method", METHOD, c, s, "on an empty stack", () -> Machines.rich(0), TOO_FEW);
            }
        }
        refused("method", METHOD, 0, 0, "on an empty stack, 100 kept", () -> Machines.full(0), TOO_FEW);
    }

    private static void methodReplaced() {
        check.said("The top becomes the method of class c for message s, and is taken off the stack; an earlier method of c for s is replaced.");
        for (int c = 0; c < 6; c++) {
            for (int s = 0; s < 6; s++) {
                MessageMachine m = Machines.withClasses(6);
                Program p = new Program(m).push("11").push("22").push("33");
                check.due("method", m.method(c, s), 2);
                p.main(send(s, "(new " + c + ")"));
                check.due("the top is the method", m.value(), 33);
                check.due("method again", m.method(c, s), 1);
                check.due("it is replaced", m.value(), 22);
                check.due("method of another message", m.method(c, (s + 1) % 6), 0);
                check.due("it is not replaced by that", m.value(), 22);
                p.method((c + 1) % 6, s, "44");
                check.due("nor by that of another class", m.value(), 22);
            }
        }
    }

    private static void mainTerm() {
        check.said("The top becomes the main term, and is taken off the stack. TOO_FEW if the stack is empty. Otherwise the number on the stack.");
        check.refused("main on a new object", MessageMachine::new, MessageMachine::main, TOO_FEW);
        check.refused("main on an empty stack", () -> Machines.rich(0), MessageMachine::main, TOO_FEW);
        check.refused("main on an empty stack, 100 kept", () -> Machines.full(0), MessageMachine::main, TOO_FEW);
        MessageMachine m = Machines.rich(8);
        for (int i = 8; i >= 1; i--) {
            check.due("main on a stack of " + i, m.main(), i - 1);
            check.due("the top is the main term", m.value(), 40 + i);
            check.due("depth after it", m.depth(), i - 1);
        }
        check.due("main on the stack that became empty", m.main(), TOO_FEW);
        check.due("the main term stays", m.value(), 41);
    }

    private static void forget() {
        check.said("No class, no method, no term from now on; the main term is nil, the stack is empty.");
        for (Supplier<MessageMachine> made : List.<Supplier<MessageMachine>>of(MessageMachine::new, () -> Machines.rich(3),
            () -> Machines.full(8), () -> Machines.sixClasses(2), () -> Machines.withClasses(6))) {
            for (Function<MessageMachine, String> look : Looks.ALL) {
                MessageMachine m = made.get();
                m.forget();
                check.same("after forget a look at the object", look.apply(m), look.apply(new MessageMachine()));
                m = made.get();
                m.run();
                m.forget();
                m.forget();
                check.same("after forget twice a look at the object", look.apply(m), look.apply(new MessageMachine()));
            }
        }
        for (int s = 0; s < 6; s++) {
            noMethodAfterForget(s);
        }
    }

    private static void noMethodAfterForget(int s) {
        MessageMachine m = Program.of("class -1 1", "class 0 1", "class 1 1", "class 2 1", "class 3 0", "class 4 0");
        Program p = new Program(m);
        for (int c = 0; c < 6; c++) {
            p.method(c, s, "5");
        }
        m.forget();
        for (int c = 0; c < 6; c++) {
            check.due("class " + c + " after forget", m.newClass(-1, 0), c);
        }
        for (int c = 0; c < 6; c++) {
            p.main(send(s, "(new " + c + ")"));
            check.due("no method for " + s + " after forget", m.run(), MessageMachine.STUCK);
            p.main("(is 0 (new " + c + "))");
            check.due("no parent from before forget", m.value(), c == 0 ? 1 : 0);
            p.method(c, s, "(setf 0 1)").main(send(s, "(new " + c + ")"));
            check.due("no field from before forget", m.run(), MessageMachine.STUCK);
        }
    }

    private static void depth() {
        check.said("`int depth()`: The number on the stack.");
        check.due("depth of a new object", new MessageMachine().depth(), 0);
        for (int stacked = 0; stacked <= 8; stacked++) {
            int n = stacked;
            check.unseen("depth", () -> Machines.rich(n), MessageMachine::depth, n);
            check.due("depth with 100 terms kept", Machines.full(n).depth(), n);
        }
    }

    private static void tidy() {
        check.said("room is made at least after every n new things, n from 1 to 50. BAD_ARG if n is not 1 to 50. Otherwise 0.");
        for (int n : new int[] {LOWEST, -50, -1, 0, 51, 52, 100, GREATEST}) {
            check.refused("tidy(" + n + ")", () -> Machines.rich(3), m -> m.tidy(n), BAD_ARG);
            check.refused("tidy(" + n + ") on a new object", MessageMachine::new, m -> m.tidy(n), BAD_ARG);
        }
        check.said("Housekeeping that can't be seen by any other call");
        for (int i = 1; i <= 50; i++) {
            int n = i;
            check.unseen("tidy(" + n + ")", () -> Machines.rich(3), m -> m.tidy(n), 0);
        }
        for (int n : new int[] {1, 50}) {
            check.unseen("tidy(" + n + ") on a new object", MessageMachine::new, m -> m.tidy(n), 0);
            check.unseen("tidy(" + n + ") with 100 terms", () -> Machines.full(8), m -> m.tidy(n), 0);
            check.unseen("tidy(" + n + ") with six classes", () -> Machines.sixClasses(1), m -> m.tidy(n), 0);
        }
    }
}

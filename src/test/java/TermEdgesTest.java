/** The boundary cases that the document names in "Terms", one sentence after the other. */
public final class TermEdgesTest {
    private static final int DONE = MessageMachine.DONE;
    private static final int STUCK = MessageMachine.STUCK;
    private static final int TIRED = MessageMachine.TIRED;
    private static final int DEEP = MessageMachine.DEEP;
    private static final int FULL_UP = MessageMachine.FULL_UP;
    private static final int LOWEST = Integer.MIN_VALUE;
    private static final int GREATEST = Integer.MAX_VALUE;
    private static final Check check = new Check();

    public static void main(String[] args) {
        // Housekeeping can't be seen, so all holds with and without it.
        for (int tidied : new int[] {0, 1, 2, 50}) {
            Program.tidied = tidied;
            allTerms();
        }
        check.end();
    }

    private static void allTerms() {
        fieldsOfAnObject();
        argumentsOfMessages();
        methodMeant();
        arithmeticWraps();
        sixVariables();
        fieldStuck();
        newObjects();
        setFieldStuck();
        setAfterX();
        arithmeticStuck();
        sameValues();
        isOfClasses();
        thenBoth();
        chooseCondition();
        loopCondition();
        loopTurns();
        printStuck();
        printFullUp();
        sendStuck();
        sendActivates();
        superStuck();
        superMeant();
        blockKeeps();
        callStuck();
        callWithStuck();
        callWithVariable();
        returnEnds();
        returnStuck();
        returnInMain();
        turnsRunOut();
        twentyUnderWay();
        stuckBeforeTheTurn();
    }

    private static MessageMachine plain(String main) {
        return Program.ofMain(main);
    }

    /** Classes 0, 1 below 0 and 2, with 2, 3 and no fields. */
    private static MessageMachine family(String... lines) {
        String[] all = new String[lines.length + 3];
        all[0] = "class -1 2";
        all[1] = "class 0 1";
        all[2] = "class -1 0";
        System.arraycopy(lines, 0, all, 3, lines.length);
        return Program.of(all);
    }

    private static void number(String what, MessageMachine m, int value) {
        check.due(what + ": run", m.run(), DONE);
        check.due(what + ": kind", m.kind(), 2);
        check.due(what + ": value", m.value(), value);
    }

    private static void ends(String what, MessageMachine m, int ending, int turns, int... printed) {
        check.due(what + ": run", m.run(), ending);
        check.due(what + ": turns", m.turns(), turns);
        check.due(what + ": printed", m.printed(), printed.length);
        for (int i = 0; i < printed.length; i++) {
            check.due(what + ": output(" + i + ")", m.output(i), printed[i]);
        }
    }

    private static void fieldsOfAnObject() {
        check.said("An object of a class has as many FIELDS as its class and all its parents have own ones together, at most 4, numbered from 0 on.");
        String[] classes = {"class -1 2", "class 0 1", "class 1 1", "class 2 0", "class -1 0", "class -1 4"};
        int[] fields = {2, 3, 4, 4, 0, 4};
        for (int k = 0; k < 4; k++) {
            for (int c = 0; c < 6; c++) {
                MessageMachine m = Program.of(classes);
                int root = c < 4 ? 0 : c;
                new Program(m).method(root, 0, "f" + k).method(root, 1, "(setf " + k + " v0)");
                String what = "field " + k + " of class " + c;
                new Program(m).main("(send 0 (new " + c + "))");
                check.due(what, m.run(), k < fields[c] ? DONE : STUCK);
                check.due(what, m.kind(), k < fields[c] ? 1 : 0);
                new Program(m).main("(then (set 0 (new " + c + ")) (send 1 v0 8) (send 0 v0))");
                check.due("set-" + what, m.run(), k < fields[c] ? DONE : STUCK);
                check.due("set-" + what, m.value(), k < fields[c] ? 8 : 0);
            }
        }
        MessageMachine m = Program.of(classes);
        new Program(m).method(2, 0, "(then (setf 0 10) (setf 1 11) (setf 2 12) (setf 3 13) (print f0) (print f1) (print f2) (print f3))")
            .main("(then (set 0 (new 3)) (set 1 (new 3)) (send 0 v0) (send 0 v1))");
        ends("four fields", m, DONE, 4, 10, 11, 12, 13, 10, 11, 12, 13);
    }

    private static void argumentsOfMessages() {
        check.said("MESSAGES are 0 to 5; message s has s % 3 ARGUMENTS.");
        String[] sends = {"(send 0 v0)", "(send 1 v0 7)", "(send 2 v0 7 8)", "(send 3 v0)", "(send 4 v0 7)", "(send 5 v0 7 8)"};
        for (int s = 0; s < 6; s++) {
            StringBuilder body = new StringBuilder("(then");
            for (int v = 0; v < 6; v++) {
                body.append(" (print (= v").append(v).append(v < s % 3 ? " " + (7 + v) : " nil").append("))");
            }
            MessageMachine m = Program.of("class -1 0", "method 0 " + s + " " + body + ")", "main (then (set 0 (new 0)) " + sends[s] + ")");
            ends("message " + s, m, DONE, 2, 1, 1, 1, 1, 1, 1);
        }
    }

    private static void methodMeant() {
        check.said("A class UNDERSTANDS a message if it has a method for it, or its parent understands it; the method MEANT is its own one,"
            + " else the one that is meant for its parent.");
        String[] line = {"class -1 0", "class 0 0", "class 1 0", "class 2 0", "class 3 0", "class 4 0"};
        for (int holder = 0; holder < 6; holder++) {
            MessageMachine m = Program.of(line);
            new Program(m).method(holder, 3, "5");
            for (int c = 0; c < 6; c++) {
                new Program(m).main("(send 3 (new " + c + "))");
                check.due("method of class " + holder + ", object of class " + c, m.run(), c >= holder ? DONE : STUCK);
                new Program(m).main("(send 0 (new " + c + "))");
                check.due("no method, object of class " + c, m.run(), STUCK);
            }
            for (int other = 0; other < 6; other++) {
                m = Program.of(line);
                new Program(m).method(holder, 3, "5").method(other, 3, "6");
                for (int c = Math.max(holder, other); c < 6; c++) {
                    new Program(m).main("(send 3 (new " + c + "))");
                    check.due("methods of " + holder + " and " + other + ", object of class " + c, m.value(), holder > other ? 5 : 6);
                }
            }
        }
        MessageMachine m = Program.of("class -1 0", "class 0 0", "class 0 0", "method 1 3 5", "main (send 3 (new 2))");
        ends("a method of another class below the parent", m, STUCK, 1);
    }

    // Sets variable 0 to the lowest int and variable 1 to the greatest one.
    private static final String LIMITS = "(then (set 0 (* (* (* (* 64 64) (* 64 64)) 64) 2)) (set 1 (- v0 1)) ";

    private static void arithmeticWraps() {
        check.said("VALUES are ints (arithmetic wraps), nil, objects, and blocks.");
        number("the lowest", plain(LIMITS + "v0)"), LOWEST);
        number("the greatest", plain(LIMITS + "v1)"), GREATEST);
        String[] terms = {
            "(+ v1 1)", "(+ v0 -1)", "(+ v0 v0)", "(+ v1 v1)", "(+ v0 v1)", "(- v0 1)", "(- v1 -1)", "(- v0 v1)", "(- v1 v0)", "(- 0 v0)",
            "(* v0 -1)", "(* -1 v0)", "(* v1 v1)", "(* v0 v0)", "(* v1 2)", "(* v0 3)", "(* v0 2)", "(* v1 -1)",
            "(< v0 v1)", "(< v1 v0)", "(< v0 v0)", "(< v1 v1)", "(< v0 1)", "(< v1 -1)", "(< -1 v1)", "(< 1 v0)", "(< v0 0)", "(< 0 v0)",
            "(= v0 v0)", "(= v0 v1)", "(= v0 0)", "(= v1 -1)", "(= v0 (+ v1 1))", "(= v0 (- 0 v0))",
        };
        int[] due = {
            LOWEST, GREATEST, 0, -2, -1, GREATEST, LOWEST, 1, -1, LOWEST,
            LOWEST, LOWEST, 1, 0, -2, LOWEST, 0, -GREATEST,
            1, 0, 0, 0, 1, 0, 1, 0, 1, 0,
            1, 0, 0, 0, 1, 1,
        };
        for (int i = 0; i < terms.length; i++) {
            number(terms[i], plain(LIMITS + terms[i] + ")"), due[i]);
        }
        number("below the greatest", plain(LIMITS + "(+ (- v1 1) 1))"), GREATEST);
        number("above the lowest", plain(LIMITS + "(- (+ v0 1) 1))"), LOWEST);
        ends("limits are printed", plain(LIMITS + "(then (print v0) (print v1)))"), DONE, 0, LOWEST, GREATEST);
        number("a sum that wraps to 0 is 0", plain(LIMITS + "(choose (+ v0 v0) 5 6))"), 6);
        number("a product that wraps to 0 is 0", plain(LIMITS + "(choose (* v0 2) 5 6))"), 6);
        number("the lowest is not 0", plain(LIMITS + "(choose v0 5 6))"), 5);
        ends("a loop on what wraps to 0", plain(LIMITS + "(loop (+ v0 v0) (print 1)))"), DONE, 0);
        MessageMachine m = Program.of("class -1 2", "method 0 2 (then (setf 0 v0) (setf 1 v1) (print f0) (print f1) (- f0 f1))",
            "main " + LIMITS + "(send 2 (new 0) v0 v1))");
        ends("limits as arguments and in fields", m, DONE, 2, LOWEST, GREATEST);
        number("limits as arguments and in fields", m, 1);
    }

    private static void sixVariables() {
        check.said("An ACTIVATION of a method has a SELF, six VARIABLES 0 to 5, and a value for each.");
        StringBuilder set = new StringBuilder("(then");
        for (int v = 0; v < 6; v++) {
            set.append(" (set ").append(v).append(" ").append(10 + v).append(")");
        }
        for (int v = 0; v < 6; v++) {
            check.due("variable " + v + " at the begin", plain("v" + v).kind(), 1);
            number("variable " + v, plain(set + " v" + v + ")"), 10 + v);
            MessageMachine m = Program.of("class -1 0", "method 0 0 " + set + " v" + v + ")", "main (send 0 (new 0))");
            number("variable " + v + " in a method", m, 10 + v);
            m = Program.of("class -1 0", "method 0 0 " + set + ")", "main (then (set " + v + " 77) (send 0 (new 0)) v" + v + ")");
            number("a method has its own variable " + v, m, 77);
        }
    }

    private static void fieldStuck() {
        check.said("field k (field k of the self; STUCK if the self is no object or has no field k)");
        for (int k = 0; k < 4; k++) {
            ends("field " + k + " in the main term", plain("(then (print 1) f" + k + ")"), STUCK, 0, 1);
            ends("field " + k + " in a block of the main term", plain("(call (block -1 f" + k + "))"), STUCK, 2);
            MessageMachine m = family("method 2 0 f" + k, "main (send 0 (new 2))");
            ends("field " + k + " of an object without fields", m, STUCK, 2);
            m = family("method 0 0 (then (print 3) f" + k + ")", "main (send 0 (new 0))");
            ends("field " + k + " of an object with two", m, k < 2 ? DONE : STUCK, 2, 3);
            m = family("method 0 0 (then (print 3) f" + k + ")", "main (send 0 (new 1))");
            ends("field " + k + " of an object with three", m, k < 3 ? DONE : STUCK, 2, 3);
        }
        MessageMachine m = family("method 0 1 (call v0)", "main (send 1 (new 0) (block -1 f0))");
        ends("the self is that of the block's activation", m, STUCK, 4);
        m = family("method 1 0 (block -1 f2)", "method 0 1 (call v0)", "main (send 1 (new 0) (send 0 (new 1)))");
        ends("the self is that of the block's activation", m, DONE, 6);
    }

    private static void newObjects() {
        check.said("new c: a TURN is taken; then a new object of class c, all fields nil");
        MessageMachine m = Program.of("class -1 4",
            "method 0 0 (then (setf 0 1) (setf 1 2) (setf 2 3) (setf 3 4))",
            "method 0 3 (+ (= f0 nil) (+ (= f1 nil) (+ (= f2 nil) (= f3 nil))))",
            "main (send 3 (new 0))");
        number("a first object", m, 4);
        new Program(m).main("(then (set 0 (new 0)) (set 1 (new 0)) (send 0 v0) (send 0 v1) (send 3 (new 0)))");
        number("a third object", m, 4);
        number("a third object in a later run", m, 4);
        new Program(m).main("(send 3 (new 0))");
        number("the first object of a later run", m, 4);
        ends("a turn for each", Program.of("class -1 0", "main (then (new 0) (new 0) (new 0))"), DONE, 3);
    }

    private static void setFieldStuck() {
        check.said("set-field k X: X is worked out, then field k of the self gets the value, which is the value (STUCK as for field)");
        for (int k = 0; k < 4; k++) {
            ends("set-field " + k + " in the main term", plain("(setf " + k + " (print 4))"), STUCK, 0, 4);
            ends("set-field " + k + " in a block of the main term", plain("(call (block -1 (setf " + k + " (print 4))))"), STUCK, 2, 4);
            ends("X ends the run before", plain("(setf " + k + " (return 4))"), DONE, 0);
            MessageMachine m = family("method 2 0 (setf " + k + " (print 4))", "main (send 0 (new 2))");
            ends("set-field " + k + " of an object without fields", m, STUCK, 2, 4);
            m = family("method 0 0 (setf " + k + " (print 4))", "main (send 0 (new 0))");
            ends("set-field " + k + " of an object with two", m, k < 2 ? DONE : STUCK, 2, 4);
            check.due("its value", m.value(), k < 2 ? 4 : 0);
            m = family("method 0 0 (setf " + k + " (print 4))", "main (send 0 (new 1))");
            ends("set-field " + k + " of an object with three", m, k < 3 ? DONE : STUCK, 2, 4);
        }
        for (String other : new String[] {"nil", "(new 2)", "(block -1 1)"}) {
            MessageMachine m = family("method 0 0 (= (setf 1 (set 0 " + other + ")) f1)", "main (send 0 (new 0))");
            number("a field takes " + other, m, 1);
        }
    }

    private static void setAfterX() {
        check.said("set v X: X is worked out, variable v gets the value, which is the value;");
        for (int v = 0; v < 6; v++) {
            number("set " + v, plain("(+ (set " + v + " (then (set " + v + " 5) (+ v" + v + " 1))) v" + v + ")"), 12);
        }
        number("a return in X", plain("(then (set 0 3) (call (block -1 (set 0 (return v0)))))"), 3);
        MessageMachine m = family("method 0 0 (+ (setf 1 (then (setf 1 5) (+ f1 1))) f1)", "main (send 0 (new 0))");
        number("set-field", m, 12);
    }

    private static final String[] NO_INTS = {"nil", "(new 0)", "(block -1 1)"};

    private static int turnsOf(String term) {
        return term.startsWith("(new") || term.startsWith("(block") ? 1 : 0;
    }

    private static void arithmeticStuck() {
        check.said("X + Y, X - Y, X * Y, X < Y: X, then Y is worked out; STUCK if one is no int; the sum, difference, product, or 1 or 0.");
        for (String op : new String[] {"+", "-", "*", "<"}) {
            for (String other : NO_INTS) {
                int turns = turnsOf(other);
                ends(op + " of " + other + " and an int", family("main (" + op + " " + other + " (print 2))"), STUCK, turns, 2);
                ends(op + " of an int and " + other, family("main (" + op + " (print 1) " + other + ")"), STUCK, turns, 1);
                ends(op + " of " + other + " and 0", family("main (" + op + " " + other + " 0)"), STUCK, turns);
                ends(op + " of 0 and " + other, family("main (" + op + " 0 " + other + ")"), STUCK, turns);
                for (String second : NO_INTS) {
                    ends(op + " of " + other + " and " + second, family("main (" + op + " " + other + " " + second + ")"), STUCK,
                        turns + turnsOf(second));
                }
            }
            ends(op + " works out X, then Y", plain("(" + op + " (print 1) (print 2))"), DONE, 0, 1, 2);
            number(op + ": Y is worked out before it is STUCK", plain("(" + op + " nil (return 4))"), 4);
            number(op + ": X first", plain("(" + op + " (return 3) (return 4))"), 3);
        }
        number("sum", plain("(+ 99 -98)"), 1);
        number("difference", plain("(- -99 99)"), -198);
        number("product", plain("(* -99 99)"), -9801);
        number("less by one", plain("(< 4 5)"), 1);
        number("the same", plain("(< 5 5)"), 0);
        number("greater by one", plain("(< 6 5)"), 0);
        number("less below 0", plain("(< -6 -5)"), 1);
    }

    private static void sameValues() {
        check.said("X = Y: both are worked out; 1 if they are the same int, both nil, the same object or the same block, else 0");
        // v0 and v1 are objects of one class, v2 and v3 blocks of one v; the numbers are those that they may have inside.
        String set = "(then (set 0 (new 0)) (set 2 (block -1 1)) (set 1 (new 0)) (set 3 (block -1 1)) ";
        String[] values = {"nil", "0", "1", "2", "3", "-1", "v0", "v1", "v2", "v3"};
        for (int i = 0; i < values.length; i++) {
            for (int j = 0; j < values.length; j++) {
                MessageMachine m = family("main " + set + "(= " + values[i] + " " + values[j] + "))");
                number(values[i] + " = " + values[j], m, i == j ? 1 : 0);
            }
        }
        ends("both are worked out", plain("(= (print 1) (print 2))"), DONE, 0, 1, 2);
        ends("both are worked out", plain("(= nil (print 2))"), DONE, 0, 2);
        number("nil of a variable and of a loop", plain("(= v3 (loop 0 1))"), 1);
        number("an object kept in two variables", family("main (then (set 0 (new 0)) (set 1 v0) (= v0 v1))"), 1);
        number("one block term, two blocks", plain("(then (set 0 1) (loop v0 (then (set 2 v1) (set 1 (block -1 1))"
            + " (set 0 (= v2 nil)))) (= v1 v2))"), 0);
    }

    private static void isOfClasses() {
        check.said("is c X: X is worked out; 1 if it is an object whose class is c or has c among its parents, else 0");
        String[] lines = {"class -1 0", "class 0 0", "class 1 0", "class 0 0", "class -1 0", "class 4 0"};
        int[] above = {-1, 0, 1, 0, -1, 4};
        for (int c = 0; c < 6; c++) {
            for (int d = 0; d < 6; d++) {
                MessageMachine m = Program.of(lines);
                new Program(m).main("(is " + c + " (new " + d + "))");
                int at = d;
                while (at != -1 && at != c) {
                    at = above[at];
                }
                number("is " + c + " of an object of class " + d, m, at == c ? 1 : 0);
            }
            for (String other : new String[] {"nil", "0", "1", "5", "-1", "(block -1 1)", "(block " + c + " 1)"}) {
                MessageMachine m = Program.of(lines);
                new Program(m).main("(is " + c + " " + other + ")");
                number("is " + c + " of " + other, m, 0);
            }
        }
        ends("X is worked out", family("main (is 0 (print 5))"), DONE, 0, 5);
        String[] line = {"class -1 0", "class 0 0", "class 1 0", "class 2 0", "class 3 0", "class 4 0"};
        for (int c = 0; c < 6; c++) {
            for (int d = 0; d < 6; d++) {
                MessageMachine m = Program.of(line);
                new Program(m).main("(is " + c + " (new " + d + "))");
                number("in a line of six, is " + c + " of an object of class " + d, m, c <= d ? 1 : 0);
            }
        }
    }

    private static void thenBoth() {
        check.said("X then Y: X, then Y is worked out; the value of Y");
        ends("then", plain("(then (print 1) (print 2))"), DONE, 0, 1, 2);
        number("then", plain("(then 1 2)"), 2);
        check.due("then nil", plain("(then 1 nil)").kind(), 1);
        for (String other : NO_INTS) {
            number("X may be " + other, family("main (then " + other + " 2)"), 2);
        }
        ends("X is STUCK", plain("(then (+ 1 nil) (print 2))"), STUCK, 0);
    }

    private static void chooseCondition() {
        check.said("choose C X Y: C is worked out; STUCK if it is no int; X is worked out if it is not 0, else Y; its value");
        for (String c : new String[] {"1", "-1", "2", "99", "-99", "v0", "v1"}) {
            MessageMachine m = plain(LIMITS + "(choose " + c + " (print 5) (print 6)))");
            ends("choose on " + c, m, DONE, 0, 5);
            number("choose on " + c, m, 5);
        }
        ends("choose on 0", plain("(choose 0 (print 5) (print 6))"), DONE, 0, 6);
        number("choose on 0", plain("(choose 0 5 6)"), 6);
        for (String other : NO_INTS) {
            MessageMachine m = family("main (choose (then (print 1) " + other + ") (print 5) (print 6))");
            ends("choose on " + other, m, STUCK, turnsOf(other), 1);
        }
        ends("C is worked out once", plain("(choose (print 1) (print 5) (print 6))"), DONE, 0, 1, 5);
        ends("C is worked out once", plain("(choose (print 0) (print 5) (print 6))"), DONE, 0, 0, 6);
        check.due("X may be nil", plain("(choose 1 nil 6)").kind(), 1);
        check.due("Y may be an object", family("main (choose 0 5 (new 1))").kind(), 5);
        number("what is not chosen can't be STUCK", plain("(choose 1 5 (+ nil 1))"), 5);
        number("what is not chosen can't be STUCK", plain("(choose 0 (+ nil 1) 6)"), 6);
    }

    private static void loopCondition() {
        check.said("loop C X: C is worked out; STUCK if it is no int; if it is 0 the value is nil; else a turn is taken, X is worked out,"
            + " and so on from the begin");
        ends("loop on 0", plain("(loop (print 0) (print 5))"), DONE, 0, 0);
        check.due("the value of a loop on 0", plain("(loop 0 5)").kind(), 1);
        for (String other : NO_INTS) {
            MessageMachine m = family("main (loop (then (print 1) " + other + ") (print 5))");
            ends("loop on " + other, m, STUCK, turnsOf(other), 1);
            m = family("main (then (set 0 1) (loop v0 (then (print 5) (set 0 " + other + "))) (print 6))");
            ends("a condition that becomes " + other, m, STUCK, 1 + turnsOf(other), 5);
            m = family("main (then (set 0 2) (loop v0 (then (set 0 (- v0 1)) " + other + ")))");
            ends("a body that gives " + other, m, DONE, 2 + 2 * turnsOf(other));
            check.due("the value of such a loop", m.kind(), 1);
        }
        for (String c : new String[] {"1", "-1", "99", "-99", "v0", "v1"}) {
            ends("loop on " + c, plain(LIMITS + "(then (set 2 " + c + ") (loop v2 (then (print 5) (set 2 0)))))"), DONE, 1, 5);
        }
        ends("C and X in turn", plain("(then (set 0 3) (loop (print v0) (then (print 9) (set 0 (- v0 1)))))"), DONE, 3, 3, 9, 2, 9, 1, 9, 0);
        MessageMachine m = plain("(then (set 0 2) (+ 7 (then (loop v0 (set 0 (- v0 1))) v0)))");
        number("a value that waits stays over a loop", m, 7);
    }

    private static void loopTurns() {
        String loop = "(then (set 0 (* 2 %d)) (set 0 (+ v0 %d)) (loop (then (set 1 (+ v1 1)) v0) (then (choose (< v0 2) (print v0) 0)"
            + " (set 0 (- v0 1)))) (print (+ 50 v0)))";
        ends("199 turns", plain(String.format("(then (set 1 0) " + loop + ")", 99, 1)), DONE, 199, 1, 50);
        ends("200 turns", plain(String.format("(then (set 1 0) " + loop + ")", 99, 2)), DONE, 200, 1, 50);
        ends("201 turns", plain(String.format("(then (set 1 0) " + loop + ")", 99, 3)), TIRED, 200);
        ends("C is worked out before the turn", plain("(then " + spending(200) + " (loop (print 3) (print 4)))"), TIRED, 200, 3);
        ends("a loop on 0 without a turn left", plain("(then " + spending(200) + " (loop (print 0) (print 4)))"), DONE, 200, 0);
        ends("a loop on nil without a turn left", plain("(then " + spending(200) + " (loop nil (print 4)))"), STUCK, 200);
    }

    /** Terms, behind which so many turns were taken; v5 is used. */
    private static String spending(int turns) {
        return String.format("(set 5 (+ (* 3 %d) %d)) (loop v5 (set 5 (- v5 1)))", turns / 3, turns % 3);
    }

    private static void printStuck() {
        check.said("print X: X is worked out; STUCK if it is no int;");
        for (String other : NO_INTS) {
            ends("print " + other, family("main (then (print 1) (print " + other + "))"), STUCK, turnsOf(other), 1);
        }
        for (String n : new String[] {"0", "-1", "99", "-99"}) {
            MessageMachine m = plain("(print " + n + ")");
            ends("print " + n, m, DONE, 0, Integer.parseInt(n));
            number("the value is that of X", m, Integer.parseInt(n));
        }
        ends("print of a print", plain("(print (+ (print 5) 1))"), DONE, 0, 5, 6);
    }

    /** Terms that print so many numbers, from 1 on, in a loop; v5 is used. */
    private static String printing(int count) {
        return String.format("(set 5 0) (loop (< v5 %d) (print (set 5 (+ v5 1))))", count);
    }

    private static void printFullUp() {
        check.said("if 20 numbers were printed before the run ends FULL_UP; else it is printed; the value is that of X");
        MessageMachine m = plain("(then " + printing(19) + " (print 77))");
        check.due("a 20th: run", m.run(), DONE);
        check.due("a 20th: printed", m.printed(), 20);
        check.due("a 20th: output(18)", m.output(18), 19);
        check.due("a 20th: output(19)", m.output(19), 77);
        check.due("a 20th: value", m.value(), 77);
        m = plain("(then " + printing(20) + " (print 77))");
        check.due("a 21st: run", m.run(), FULL_UP);
        check.due("a 21st: kind", m.kind(), 0);
        check.due("a 21st: value", m.value(), 0);
        check.due("a 21st: printed", m.printed(), 20);
        check.due("a 21st: output(0)", m.output(0), 1);
        check.due("a 21st: output(19)", m.output(19), 20);
        check.due("a 21st: output(20)", m.output(20), 0);
        check.due("a 21st: turns", m.turns(), 20);
        for (String other : NO_INTS) {
            m = family("main (then " + printing(20) + " (print " + other + "))");
            check.due("STUCK is told before FULL_UP: " + other, m.run(), STUCK);
        }
        check.due("X is worked out before", plain("(then " + printing(20) + " (print (return 3)))").value(), 3);
        check.due("X is worked out before", plain("(then " + printing(20) + " (print (+ 1 nil)))").run(), STUCK);
        check.due("a print of a 20th", plain("(then " + printing(19) + " (print (print 3)))").run(), FULL_UP);
        check.due("a print of a 19th", plain("(then " + printing(18) + " (print (print 3)))").run(), DONE);
        m = Program.of("class -1 0", "method 0 0 (print 8)", "main (then " + printing(20) + " (send 0 (new 0)))");
        check.due("a 21st in a method", m.run(), FULL_UP);
        check.due("a 21st in a method: turns", m.turns(), 22);
        check.due("a 21st in a method: made", m.made(0), 1);
        check.due("a 21st in a method: deepest", m.deepest(), 1);
    }

    private static void sendStuck() {
        check.said("send s R A..: R, then the arguments are worked out in order; STUCK if R is no object or its class does not understand s;");
        String[] methods = {"method 0 0 1", "method 0 1 1", "method 0 2 1", "method 0 3 1", "method 0 4 1", "method 0 5 1"};
        for (String other : new String[] {"nil", "0", "1", "(block -1 1)", "(block 0 1)", "(new 2)"}) {
            int turns = turnsOf(other);
            for (int s = 0; s < 6; s++) {
                MessageMachine m = family(methods);
                new Program(m).main(send(s, "(then (print 1) " + other + ")"));
                ends("send " + s + " to " + other, m, STUCK, turns, printedBySend(s));
                check.due("send " + s + " to " + other + ": deepest", m.deepest(), 0);
            }
        }
        for (int s = 0; s < 6; s++) {
            MessageMachine m = family(methods);
            new Program(m).main(send(s, "(then (print 1) (new 0))"));
            ends("send " + s + " to an object", m, DONE, 2, printedBySend(s));
            new Program(m).main(send(s, "(then (print 1) (new 1))"));
            ends("send " + s + " to an object of a class below", m, DONE, 2, printedBySend(s));
            m = family("method 0 " + (s + 1) % 6 + " 1", "method 0 " + (s + 3) % 6 + " 1");
            new Program(m).main(send(s, "(then (print 1) (new 0))"));
            ends("send " + s + ", where others are understood", m, STUCK, 1, printedBySend(s));
        }
        number("an argument ends the run before", plain("(send 1 nil (return 4))"), 4);
        number("R is the first", plain("(send 1 (return 3) (return 4))"), 3);
        number("the arguments are in order", plain("(send 2 nil (return 4) (return 5))"), 4);
    }

    private static String send(int s, String receiver) {
        return "(send " + s + " " + receiver + (s % 3 > 0 ? " (print 2)" : "") + (s % 3 > 1 ? " (print 3)" : "") + ")";
    }

    private static int[] printedBySend(int s) {
        int[] numbers = new int[1 + s % 3];
        for (int i = 0; i < numbers.length; i++) {
            numbers[i] = i + 1;
        }
        return numbers;
    }

    private static void sendActivates() {
        check.said("else a turn is taken, and the method meant is ACTIVATED with R as self: a new activation, the first variables are the"
            + " arguments, the others nil; the value is that of the method's term worked out in it, or that of a return");
        MessageMachine m = family("method 0 2 (then (set 2 5) (set 5 5) (choose v0 (send 2 self 0 nil)"
            + " (+ (= v1 nil) (+ (= v2 5) (= v3 nil)))))", "main (send 2 (new 0) 1 8)");
        number("a new activation each", m, 3);
        m = family("method 0 1 (then (set 0 9) (set 3 9))", "main (then (set 0 1) (set 3 2) (send 1 (new 0) v0) (+ (* 10 v0) v3))");
        number("the variables of the sender stay", m, 12);
        m = family("method 0 0 self", "main (then (set 0 (new 1)) (= v0 (send 0 v0)))");
        number("R is the self", m, 1);
        m = family("method 0 0 (then (return 4) 5)", "main (+ 1 (send 0 (new 0)))");
        number("the value of a return", m, 5);
        m = family("method 0 0 (then 4 5)", "main (+ 1 (send 0 (new 0)))");
        number("the value of the term", m, 6);
        for (String other : NO_INTS) {
            m = family("method 0 1 v0", "main (send 1 (new 0) " + other + ")");
            check.due("an argument may be " + other, m.kind(), other.equals("nil") ? 1 : other.startsWith("(new") ? 4 : 3);
        }
    }

    private static String superOf(int s) {
        return "(super " + s + (s % 3 > 0 ? " (print 1)" : "") + (s % 3 > 1 ? " (print 2)" : "") + ")";
    }

    private static int[] printedBySuper(int s) {
        return s % 3 == 0 ? new int[0] : s % 3 == 1 ? new int[] {1} : new int[] {1, 2};
    }

    private static void superStuck() {
        check.said("super s A..: the arguments are worked out in order; STUCK if the term is in the main term, the class whose method the term"
            + " is in has no parent, or that does not understand s;");
        for (int s = 0; s < 6; s++) {
            String[] all = {"method 0 " + s + " 5", "method 1 " + s + " 6", "method 2 " + s + " 7"};
            MessageMachine m = family(all);
            new Program(m).main(superOf(s));
            ends("super " + s + " in the main term", m, STUCK, 0, printedBySuper(s));
            new Program(m).main("(call (block -1 " + superOf(s) + "))");
            ends("super " + s + " in a block of the main term", m, STUCK, 2, printedBySuper(s));
            int other = s == 0 ? 3 : 0;
            m = family(all);
            new Program(m).method(1, other, "(call (block -1 " + superOf(s) + "))").main("(send " + other + " (new 1))");
            ends("super " + s + " in a block of a method", m, DONE, 5, printedBySuper(s));
            check.due("super " + s + " in a block of a method", m.value(), 5);
            m = family(all);
            new Program(m).method(2, other, superOf(s)).main("(send " + other + " (new 2))");
            ends("super " + s + " of a class without parent", m, STUCK, 2, printedBySuper(s));
            m = family(all);
            new Program(m).method(0, other, superOf(s)).main("(send " + other + " (new 1))");
            ends("super " + s + " of a class without parent, self of a class below", m, STUCK, 2, printedBySuper(s));
            m = family("method 1 " + s + " 6", "method 0 " + (s + 1) % 6 + " 8");
            new Program(m).method(1, other, superOf(s)).main("(send " + other + " (new 1))");
            ends("super " + s + " that the parent does not understand", m, STUCK, 2, printedBySuper(s));
            check.due("super that is STUCK: deepest", m.deepest(), 1);
        }
        number("an argument ends the run before", plain("(super 1 (return 4))"), 4);
        number("the arguments are in order", plain("(super 2 (return 4) (return 5))"), 4);
    }

    private static void superMeant() {
        check.said("else a turn is taken, and the method meant for the parent is activated with the self");
        String[] line = {"class -1 1", "class 0 0", "class 1 0", "class 2 0", "class 3 0", "class 4 0"};
        for (int holder = 0; holder < 5; holder++) {
            for (int below = holder + 1; below < 6; below++) {
                MessageMachine m = Program.of(line);
                new Program(m).method(holder, 4, "(+ v0 (* 10 (= self f0)))").method(below, 4, "(then (setf 0 self) (super 4 (+ v0 1)))")
                    .main("(send 4 (new 5) 3)");
                number("super from class " + below + " to class " + holder, m, 14);
                ends("super takes a turn", m, DONE, 3);
                check.due("super is under way", m.deepest(), 2);
            }
        }
        MessageMachine m = Program.of(line);
        Program p = new Program(m);
        for (int c = 0; c < 6; c++) {
            p.method(c, 3, c == 0 ? "(print 0)" : "(then (print " + c + ") (super 3))");
        }
        p.main("(send 3 (new 5))");
        ends("super of super", m, DONE, 7, 5, 4, 3, 2, 1, 0);
        m = family("method 0 2 (+ (* 10 (= v2 nil)) (+ v0 (+ v1 (= v5 nil))))", "method 1 2 (then (set 2 8) (set 5 8) (super 2 v1 v0))",
            "main (send 2 (new 1) 30 40)");
        number("super has a new activation", m, 81);
    }

    private static void blockKeeps() {
        check.said("block v X (v from 0 to 5, or none): a turn is taken; a new block, which keeps this activation, v and X");
        for (int v = -1; v <= 5; v++) {
            MessageMachine m = plain("(block " + v + " (print 1))");
            ends("block " + v, m, DONE, 1);
            check.due("block " + v + ": kind", m.kind(), 3);
            check.due("block " + v + ": deepest", m.deepest(), 0);
        }
        MessageMachine m = family("method 0 1 (block -1 (set 0 (+ v0 1)))",
            "main (then (set 0 50) (set 1 (send 1 (new 0) 5)) (set 2 (send 1 (new 0) 8)) (print (call v1)) (print (call v1))"
            + " (print (call v2)) (print v0))");
        ends("each keeps its own activation", m, DONE, 9, 6, 7, 9, 50);
        m = family("method 0 1 (+ (call v0) (call v0))", "main (then (set 0 5) (send 1 (new 0) (block -1 (set 0 (+ v0 1)))))");
        number("not that of the caller", m, 13);
    }

    private static void callStuck() {
        check.said("call B: B is worked out; STUCK if it is no block, or has a v; else a turn is taken and X is worked out in the activation"
            + " that the block keeps.");
        for (String other : new String[] {"nil", "0", "1", "(new 0)"}) {
            ends("call of " + other, family("main (call (then (print 1) " + other + "))"), STUCK, turnsOf(other), 1);
        }
        for (int v = 0; v <= 5; v++) {
            MessageMachine m = plain("(call (then (print 1) (block " + v + " (print 2))))");
            ends("call of a block with " + v, m, STUCK, 1, 1);
            check.due("call of a block with " + v + ": deepest", m.deepest(), 0);
        }
        MessageMachine m = plain("(call (then (print 1) (block -1 (print 2))))");
        ends("call of a block without v", m, DONE, 2, 1, 2);
        check.due("call of a block without v: deepest", m.deepest(), 1);
        ends("call after a block of its number", family("main (then (block -1 (print 1)) (call 0))"), STUCK, 1);
    }

    private static void callWithStuck() {
        check.said("call B with A: B, then A is worked out; STUCK if B is no block or has no v;");
        for (String other : new String[] {"nil", "0", "1", "(new 0)", "(block -1 (print 8))"}) {
            MessageMachine m = family("main (call (then (print 1) " + other + ") (print 2))");
            ends("call with of " + other, m, STUCK, turnsOf(other), 1, 2);
            check.due("call with of " + other + ": deepest", m.deepest(), 0);
        }
        number("A ends the run before", plain("(call nil (return 4))"), 4);
        number("B is the first", plain("(call (return 3) (return 4))"), 3);
    }

    private static void callWithVariable() {
        check.said("else a turn is taken, variable v of that activation gets A's value, and X is worked out there");
        for (int v = 0; v <= 5; v++) {
            MessageMachine m = plain("(call (block " + v + " (print v" + v + ")) (print 2))");
            ends("call with of a block with " + v, m, DONE, 2, 2, 2);
            check.due("it is under way", m.deepest(), 1);
            m = plain("(then (set " + v + " 4) (+ (call (block " + v + " 50) (+ v" + v + " 3)) v" + v + "))");
            number("variable " + v + " stays set", m, 57);
            m = plain("(then (set " + v + " 4) (set " + (v + 1) % 6 + " 5) (call (block " + v + " 50) 9) v" + (v + 1) % 6 + ")");
            number("no other variable is set", m, 5);
        }
        for (String other : NO_INTS) {
            MessageMachine m = family("main (then (set 0 " + other + ") (call (block 1 (= v1 v0)) v0))");
            number("A may be " + other, m, 1);
        }
        MessageMachine m = family("method 0 1 (set 1 (block 2 (+ v0 v2)))", "main (then (set 0 50) (set 2 60) (+ (call (send 1 (new 0) 5) 7) v2))");
        number("the activation that the block keeps, not that of the call", m, 72);
        m = plain("(then (set 0 1) (set 1 (block 0 v0)) (call v1 (then (set 0 2) (+ v0 5))))");
        number("A is worked out before the variable is set", m, 7);
    }

    private static void returnEnds() {
        check.said("return X: X is worked out; then the activation (for terms in a block the one that the block keeps) ends with this value as the"
            + " value of its send or super; everything that was begun since is not finished.");
        MessageMachine m = family("method 0 0 (then (return (print 4)) (print 5))", "main (then (print (+ 1 (send 0 (new 0)))) 9)");
        ends("in a method", m, DONE, 2, 4, 5);
        m = family("method 0 0 (then (call (block -1 (then (return (print 4)) (print 5)))) (print 6))", "main (print (+ 1 (send 0 (new 0))))");
        ends("in a block of a method", m, DONE, 4, 4, 5);
        m = family("method 0 0 (then (send 1 self (block -1 (return 4))) (print 6))", "method 0 1 (then (call (block -1 (call v0))) (print 7))",
            "main (print (+ 1 (send 0 (new 0))))");
        ends("through other methods and blocks", m, DONE, 7, 5);
        check.due("through other methods and blocks", m.deepest(), 4);
        m = family("method 0 3 (then (call (block 1 (return v1)) 4) (print 6))", "method 1 3 (+ 1 (super 3))", "main (print (send 3 (new 1)))");
        ends("the value of a super", m, DONE, 5, 5);
        m = family("method 0 1 (choose v0 (+ 1 (send 1 self (- v0 1))) (return 50))", "main (send 1 (new 0) 5)");
        number("only the newest activation of a method", m, 55);
        m = family("method 0 2 (choose v0 (+ 1 (send 2 self (- v0 1) v1)) (call v1))",
            "method 0 1 (+ 30 (send 2 self v0 (block -1 (return 4))))", "main (+ 10 (send 1 (new 0) 5))");
        number("all activations begun since", m, 14);
        for (String other : NO_INTS) {
            m = family("method 0 0 (then (return " + other + ") 5)", "main (send 0 (new 0))");
            check.due("X may be " + other, m.kind(), other.equals("nil") ? 1 : other.startsWith("(new") ? 4 : 3);
        }
        m = family("method 0 0 (return (+ 1 (return 4)))", "main (+ 10 (send 0 (new 0)))");
        number("a return in X", m, 14);
        m = family("method 0 0 (+ 1 (loop 1 (choose 1 (return 4) 5)))", "main (+ (+ 10 (send 0 (new 0))) (send 0 (new 0)))");
        number("from within a loop, with values waiting", m, 18);
    }

    private static void returnStuck() {
        check.said("STUCK if the activation has ended already.");
        String[] makers = {"(block -1 (return (print 5)))", "(return (block -1 (return (print 5))))",
            "(call (block -1 (return (block -1 (return (print 5))))))"};
        int[] turns = {4, 4, 6};
        for (int i = 0; i < makers.length; i++) {
            MessageMachine m = family("method 0 0 " + makers[i], "main (then (print 1) (call (send 0 (new 0))) (print 2))");
            ends("after " + makers[i], m, STUCK, turns[i], 1, 5);
        }
        MessageMachine m = family("method 0 0 (block 1 (choose v1 (return 5) 6))", "main (then (set 0 (send 0 (new 0))) (print (call v0 0))"
            + " (print (call v0 1)))");
        ends("a block without return goes on", m, STUCK, 5, 6);
        m = family("method 0 0 (block -1 (return 5))", "method 0 1 (then (call v0) (print 2))", "main (send 1 (new 0) (send 0 (new 0)))");
        ends("where another method is under way", m, STUCK, 6);
        m = family("method 0 1 (choose (= v0 nil) (block -1 (return 5)) (then (call v0) (print 2)))",
            "main (then (set 0 (new 0)) (send 1 v0 (send 1 v0 nil)))");
        ends("where the same method is under way anew", m, STUCK, 5);
        m = family("method 0 1 (then (set 1 (block -1 (return 5))) (send 4 self v1) (print 2))", "method 0 4 (call v0)",
            "main (print (send 1 (new 0) 0))");
        ends("still under way", m, DONE, 5, 5);
    }

    private static void returnInMain() {
        check.said("In the activation of the main term the run ends DONE with the value.");
        ends("return", plain("(then (print 1) (return (print 2)) (print 3))"), DONE, 0, 1, 2);
        number("return", plain("(+ 1 (return 2))"), 2);
        ends("in a block", plain("(then (call (block -1 (return (print 2)))) (print 3))"), DONE, 2, 2);
        number("in a block", plain("(+ 1 (call (block -1 (+ 2 (return 4)))))"), 4);
        MessageMachine m = family("method 0 1 (then (call v0) (print 3))", "main (+ 1 (send 1 (new 0) (block -1 (return 4))))");
        ends("in a block, from within a method", m, DONE, 4);
        number("in a block, from within a method", m, 4);
        for (String other : NO_INTS) {
            m = family("main (then (return " + other + ") 5)");
            check.due("X may be " + other, m.kind(), other.equals("nil") ? 1 : other.startsWith("(new") ? 4 : 3);
        }
        number("in a loop", plain("(loop 1 (return 6))"), 6);
        number("in the condition of a loop", plain("(loop (return 6) 1)"), 6);
    }

    /** Each term that takes a turn: it takes the 200th, and where that is taken it does nothing more. */
    private static void turnsRunOut() {
        check.said("A turn: if 200 turns were taken before, the run ends TIRED, else it is counted.");
        String set = "(then (set 0 (new 1)) (set 1 (block -1 (print 8))) (set 2 (block 4 (print 8))) ";
        String[] takers = {"(new 1)", "(block -1 (print 8))", "(block 3 (print 8))", "(call v1)", "(call v2 (print 1))", "(send 0 v0)",
            "(send 1 v0 (print 1))", "(send 2 v0 (print 1) (print 2))", "(loop (print 1) (return 8))"};
        int[] before = {0, 0, 0, 0, 1, 0, 1, 2, 1};
        int[] after = {0, 0, 0, 1, 2, 1, 2, 3, 1};
        int[] deepest = {0, 0, 0, 1, 1, 1, 1, 1, 0};
        int[] made = {2, 1, 1, 1, 1, 1, 1, 1, 1};
        for (int i = 0; i < takers.length; i++) {
            MessageMachine m = family("method 0 0 (print 8)", "method 0 1 (print 8)", "method 0 2 (print 8)",
                "main " + set + spending(196) + " " + takers[i] + ")");
            check.due(takers[i] + " as the 200th turn: run", m.run(), DONE);
            check.due(takers[i] + " as the 200th turn: turns", m.turns(), 200);
            check.due(takers[i] + " as the 200th turn: printed", m.printed(), after[i]);
            check.due(takers[i] + " as the 200th turn: deepest", m.deepest(), deepest[i]);
            check.due(takers[i] + " as the 200th turn: made", m.made(1), made[i]);
            new Program(m).main(set + spending(197) + " " + takers[i] + ")");
            check.due(takers[i] + " as the 201st turn: run", m.run(), TIRED);
            check.due(takers[i] + " as the 201st turn: turns", m.turns(), 200);
            check.due(takers[i] + " as the 201st turn: printed", m.printed(), before[i]);
            check.due(takers[i] + " as the 201st turn: deepest", m.deepest(), 0);
            check.due(takers[i] + " as the 201st turn: made", m.made(1), 1);
            check.due(takers[i] + " as the 201st turn: kind", m.kind(), 0);
        }
        for (int s = 0; s < 6; s++) {
            int other = s == 0 ? 3 : 0;
            MessageMachine m = family("method 0 " + s + " (print 8)");
            new Program(m).method(1, other, superOf(s)).main("(then " + spending(197) + " (send " + other + " (new 1)))");
            check.due("super as the 200th turn: run", m.run(), DONE);
            check.due("super as the 200th turn: turns", m.turns(), 200);
            check.due("super as the 200th turn: deepest", m.deepest(), 2);
            new Program(m).main("(then " + spending(198) + " (send " + other + " (new 1)))");
            check.due("super as the 201st turn: run", m.run(), TIRED);
            check.due("super as the 201st turn: turns", m.turns(), 200);
            check.due("super as the 201st turn: deepest", m.deepest(), 1);
            check.due("super as the 201st turn: printed", m.printed(), s % 3);
        }
        freeTerms();
    }

    /** Terms that take no turn are worked out when none is left. */
    private static void freeTerms() {
        String[] free = {"7", "nil", "self", "v0", "(set 0 7)", "(+ 3 4)", "(- 3 4)", "(* 3 4)", "(< 3 4)", "(= 3 4)", "(is 0 3)", "(then 3 4)",
            "(choose 1 3 4)", "(loop 0 3)", "(print 3)", "(return 3)"};
        for (String term : free) {
            MessageMachine m = family("main (then " + spending(200) + " " + term + ")");
            check.due(term + " without a turn left: run", m.run(), DONE);
            check.due(term + " without a turn left: turns", m.turns(), 200);
            check.due(term + " takes no turn", family("main " + term).turns(), 0);
        }
        MessageMachine m = family("method 0 0 (then (setf 0 5) " + spending(198) + " (return (setf 1 f0)))", "main (send 0 (new 0))");
        ends("fields and return without a turn left", m, DONE, 200);
        number("fields and return without a turn left", m, 5);
    }

    /** A run where so many methods are under way when the innermost one works its term out, with the block in v1. */
    private static MessageMachine nested(int methods, String innermost, String block) {
        return family("method 0 2 (choose (< 1 v0) (send 2 self (- v0 1) v1) " + innermost + ")", "method 0 0 (print 8)", "method 0 3 (print 8)",
            "method 0 1 (print v0)", "method 0 4 (print v0)", "method 0 5 (print v1)",
            "method 1 3 (super 3)", "method 1 4 (super 1 v0)", "method 1 1 (super 5 v0 v0)",
            "main (send 2 (new 1) " + methods + " " + block + ")");
    }

    private static void twentyUnderWay() {
        check.said("Activating a method, or calling a block, when 20 are under way (the main term not counted) ends the run DEEP, after the turn is taken.");
        String[] enters = {"(send 0 self)", "(send 2 self 1 nil)", "(call v1)", "(call v1 8)", "(then (set 2 (block -1 (print 8))) (call v2))"};
        String[] blocks = {"nil", "nil", "(block -1 (print 8))", "(block 0 (print v0))", "nil"};
        int[] before = {0, 0, 1, 1, 1};
        for (int i = 0; i < enters.length; i++) {
            if (i != 1) {
                MessageMachine m = nested(19, enters[i], blocks[i]);
                ends(enters[i] + " as the 20th", m, DONE, 1 + 19 + before[i] + 1, 8);
                check.due(enters[i] + " as the 20th: deepest", m.deepest(), 20);
            }
            MessageMachine m = nested(20, enters[i], blocks[i]);
            ends(enters[i] + " as the 21st", m, DEEP, 1 + 20 + before[i] + 1);
            check.due(enters[i] + " as the 21st: deepest", m.deepest(), 20);
            check.due(enters[i] + " as the 21st: kind", m.kind(), 0);
        }
        int[] superSends = {3, 4, 1};
        for (int s : superSends) {
            String send = s == 3 ? "(send 3 self)" : "(send " + s + " self 8)";
            MessageMachine m = nested(18, send, "nil");
            ends("super as the 20th", m, DONE, 1 + 18 + 2, 8);
            check.due("super as the 20th: deepest", m.deepest(), 20);
            m = nested(19, send, "nil");
            ends("super as the 21st", m, DEEP, 1 + 19 + 2);
            check.due("super as the 21st: deepest", m.deepest(), 20);
        }
        MessageMachine m = nested(20, "(send 1 self (print 6))", "nil");
        ends("the arguments are worked out before", m, DEEP, 22, 6);
        m = nested(20, "(call (block 0 1) (print 6))", "nil");
        ends("B and A are worked out before", m, DEEP, 23, 6);
        m = nested(20, "(then (print 6) (new 2) (block -1 1) 7)", "nil");
        ends("other terms are not under way", m, DONE, 23, 6);
        m = nested(19, "(then (send 0 self) (call (block -1 (print 7))) (send 0 self))", "nil");
        ends("what has ended is no longer under way", m, DONE, 24, 8, 7, 8);
        ends("20 blocks", plain("(call (block -1 ".repeat(20) + "(print 5)" + "))".repeat(20)), DONE, 40, 5);
        m = plain("(call (block -1 ".repeat(21) + "(print 5)" + "))".repeat(21));
        ends("21 blocks", m, DEEP, 42);
        check.due("21 blocks: deepest", m.deepest(), 20);
        m = family("method 0 1 (call v0)", "main (then (set 1 (new 0)) (set 2 0) (set 0 (block -1 (choose (< v2 9) (then (set 2 (+ v2 1))"
            + " (send 1 v1 v0)) (print v2)))) (call v0))");
        ends("methods and blocks together, 19", m, DONE, 2 + 19, 9);
        check.due("methods and blocks together, 19", m.deepest(), 19);
        tiredOrDeep();
    }

    private static void tiredOrDeep() {
        MessageMachine m = nested(20, "(then " + spending(178) + " (send 0 self))", "nil");
        ends("DEEP with the last turn", m, DEEP, 200);
        m = nested(20, "(then " + spending(179) + " (send 0 self))", "nil");
        ends("TIRED where no turn is left", m, TIRED, 200);
        check.due("TIRED where no turn is left: deepest", m.deepest(), 20);
        m = nested(20, "(then " + spending(177) + " (set 5 (block -1 1)) (call v5))", "nil");
        ends("a block, DEEP with the last turn", m, DEEP, 200);
        m = nested(20, "(then " + spending(178) + " (set 5 (block -1 1)) (call v5))", "nil");
        ends("a block, TIRED where no turn is left", m, TIRED, 200);
    }

    private static void stuckBeforeTheTurn() {
        check.said("STUCK if R is no object or its class does not understand s; else a turn is taken");
        String[] stuck = {"(send 0 nil)", "(send 0 7)", "(send 3 (print 1))", "(call nil)", "(call 7)", "(call v1)", "(call v1 7)", "(super 0)"};
        String[] blocks = {"nil", "nil", "nil", "nil", "nil", "(block 0 1)", "(block -1 1)", "nil"};
        for (int i = 0; i < stuck.length; i++) {
            int printed = stuck[i].contains("print") ? 1 : 0;
            MessageMachine m = nested(20, stuck[i], blocks[i]);
            check.due(stuck[i] + " with 20 under way: run", m.run(), STUCK);
            check.due(stuck[i] + " with 20 under way: turns", m.turns(), 21 + (blocks[i].equals("nil") ? 0 : 1));
            check.due(stuck[i] + " with 20 under way: printed", m.printed(), printed);
            m = family("main (then (set 1 " + blocks[i] + ") " + spending(blocks[i].equals("nil") ? 200 : 199) + " " + stuck[i] + ")");
            check.due(stuck[i] + " without a turn left: run", m.run(), STUCK);
            check.due(stuck[i] + " without a turn left: turns", m.turns(), 200);
        }
        MessageMachine m = family("main (then (set 0 (new 2)) " + spending(199) + " (send 0 v0))");
        ends("not understood without a turn left", m, STUCK, 200);
        m = family("method 0 0 (then " + spending(198) + " (super 0))", "main (send 0 (new 0))");
        ends("super without a parent and a turn left", m, STUCK, 200);
    }
}

/** Promises 12 to 22, and what the document says of each term. */
public final class RunningTest {
    private static final int DONE = MessageMachine.DONE;
    private static final int STUCK = MessageMachine.STUCK;
    private static final int TIRED = MessageMachine.TIRED;
    private static final int DEEP = MessageMachine.DEEP;
    private static final int FULL_UP = MessageMachine.FULL_UP;
    private static final Check check = new Check();

    public static void main(String[] args) {
        values();
        firstQuestions();
        arithmetic();
        sameness();
        order();
        chooseAndLoop();
        fields();
        classes();
        sends();
        supers();
        blocks();
        returns();
        cutOff();
        printing();
        turns();
        depth();
        made();
        reach();
        tidy();
        tellsOfTheRunNow();
        longRuns();
        check.end();
    }

    private static void ends(String what, MessageMachine m, int ending, int turns) {
        check.due(what + ": run", m.run(), ending);
        check.due(what + ": turns", m.turns(), turns);
        if (ending != DONE) {
            check.due(what + ": kind", m.kind(), 0);
            check.due(what + ": value", m.value(), 0);
            check.due(what + ": reach", m.reach(), 0);
        }
    }

    private static void number(String what, MessageMachine m, int value) {
        check.due(what + ": run", m.run(), DONE);
        check.due(what + ": kind", m.kind(), 2);
        check.due(what + ": value", m.value(), value);
    }

    private static void prints(String what, MessageMachine m, int... numbers) {
        check.due(what + ": printed", m.printed(), numbers.length);
        for (int i = 0; i < numbers.length; i++) {
            check.due(what + ": output(" + i + ")", m.output(i), numbers[i]);
        }
        check.due(what + ": output behind the last", m.output(numbers.length), 0);
    }

    private static MessageMachine plain(String main) {
        return Program.ofMain(main);
    }

    /** Class 0 with two fields, class 1 below it with one more, class 2 apart with none. */
    private static Program family(MessageMachine m) {
        return new Program(m).newClass(-1, 2).newClass(0, 1).newClass(-1, 0);
    }

    private static MessageMachine family(String main) {
        MessageMachine m = new MessageMachine();
        family(m).main(main);
        return m;
    }

    private static void values() {
        number("number", plain("-99"), -99);
        number("zero", plain("0"), 0);
        check.due("nil", plain("nil").kind(), 1);
        check.due("the value of nil", plain("nil").value(), 0);
        check.due("self in the main term", plain("self").kind(), 1);
        for (int v = 0; v < 6; v++) {
            check.due("variable at the begin", plain("v" + v).kind(), 1);
            number("set and variable", plain("(then (set " + v + " 8) v" + v + ")"), 8);
        }
        number("set has the value", plain("(set 3 7)"), 7);
        check.due("a set of another variable", plain("(then (set 3 7) v4)").kind(), 1);
        check.due("block", plain("(block -1 1)").kind(), 3);
        check.due("the value of a block", plain("(block -1 1)").value(), 0);
        check.due("the value of a later block", plain("(then (block -1 1) (block -1 1))").value(), 0);
        for (int c = 0; c < 3; c++) {
            check.due("object", family("(new " + c + ")").kind(), 4 + c);
            check.due("the value of an object", family("(new " + c + ")").value(), 0);
            check.due("the value of a later object", family("(then (new 0) (new 1) (new " + c + "))").value(), 0);
        }
    }

    /** Each question as the first one about a run, on a new object and after a change. */
    private static void firstQuestions() {
        String main = "(then (print 6) (call (block -1 nil)) (new 1) 8)";
        check.due("run first", family("(+ nil 1)").run(), STUCK);
        check.due("kind first", family(main).kind(), 2);
        check.due("value first", family(main).value(), 8);
        check.due("printed first", family(main).printed(), 1);
        check.due("output first", family(main).output(0), 6);
        check.due("turns first", family(main).turns(), 3);
        check.due("deepest first", family(main).deepest(), 1);
        check.due("made first", family(main).made(1), 1);
        check.due("reach first", family("(new 1)").reach(), 1);
        MessageMachine m = family(main);
        Program p = new Program(m);
        m.run();
        p.main("(then (print 7) (print 8))");
        check.due("printed after a change", m.printed(), 2);
        p.main("(print 9)");
        check.due("output after a change", m.output(0), 9);
        p.main("(new 2)");
        check.due("turns after a change", m.turns(), 1);
        p.main("(call (block -1 (call (block -1 1))))");
        check.due("deepest after a change", m.deepest(), 2);
        p.main("(then (new 2) (new 2))");
        check.due("made after a change", m.made(2), 2);
        p.main("(new 0)");
        check.due("reach after a change", m.reach(), 1);
        p.main("nil");
        check.due("kind after a change", m.kind(), 1);
        p.main("-3");
        check.due("value after a change", m.value(), -3);
        p.main("self");
        check.due("made after another one", m.made(2), 0);
    }

    private static void arithmetic() {
        number("+", plain("(+ 7 -9)"), -2);
        number("-", plain("(- 7 9)"), -2);
        number("*", plain("(* 7 -9)"), -63);
        number("<", plain("(< -9 7)"), 1);
        number("< of the same", plain("(< 7 7)"), 0);
        number("< of the greater", plain("(< 7 -9)"), 0);
        String big = "(then (set 0 64) (set 0 (* v0 v0)) (set 0 (* v0 v0)) (set 0 (* v0 64)) (set 0 (+ v0 v0))";
        number("2 to the 31st wraps", plain(big + " v0)"), Integer.MIN_VALUE);
        number("difference wraps", plain(big + " (- v0 1))"), Integer.MAX_VALUE);
        number("sum wraps", plain(big + " (+ v0 v0))"), 0);
        number("product wraps", plain(big + " (* (- v0 1) 2))"), -2);
        number("< does not wrap", plain(big + " (< v0 1))"), 1);
        number("< does not wrap the other way", plain(big + " (< (- v0 1) -1))"), 0);
        for (String op : new String[] {"+", "-", "*", "<"}) {
            for (String other : new String[] {"nil", "(new 0)", "(block -1 1)"}) {
                int turns = other.equals("nil") ? 0 : 1;
                ends(op + " with " + other + " left", family("(" + op + " " + other + " 1)"), STUCK, turns);
                ends(op + " with " + other + " right", family("(" + op + " 1 " + other + ")"), STUCK, turns);
            }
        }
    }

    private static void sameness() {
        number("same int", plain("(= 5 (+ 2 3))"), 1);
        number("other int", plain("(= 5 6)"), 0);
        number("both nil", plain("(= nil v5)"), 1);
        number("nil and 0", plain("(= nil 0)"), 0);
        number("nil and 1", plain("(= nil 1)"), 0);
        number("same object", family("(then (set 0 (new 0)) (= v0 v0))"), 1);
        number("two objects of a class", family("(= (new 0) (new 0))"), 0);
        number("object and int", family("(= (new 0) 0)"), 0);
        number("object and nil", family("(= nil (new 0))"), 0);
        number("same block", plain("(then (set 0 (block -1 1)) (= v0 v0))"), 1);
        number("two blocks", plain("(= (block -1 1) (block -1 1))"), 0);
        number("block of one term, made twice", plain("(then (set 2 0) (set 0 nil) (loop (< v2 2)"
            + " (then (set 1 v0) (set 0 (block -1 1)) (set 2 (+ v2 1)))) (= v0 v1))"), 0);
        number("block and int", plain("(= (block -1 1) 0)"), 0);
        number("block and object", family("(= (block -1 1) (new 0))"), 0);
        number("-1 and the others", family("(+ (+ (= -1 nil) (= -1 (new 0))) (= -1 (block -1 1)))"), 0);
    }

    private static void order() {
        for (String op : new String[] {"+", "-", "*", "<", "=", "then"}) {
            prints(op, plain("(" + op + " (print 1) (print 2))"), 1, 2);
        }
        for (String op : new String[] {"+", "-", "*", "<"}) {
            prints(op + " works out both before it is stuck", plain("(" + op + " nil (print 2))"), 2);
        }
        MessageMachine m = new MessageMachine();
        family(m).method(0, 2, "(print 9)").method(1, 5, "(super 2 (print 4) (print 5))")
            .main("(send 2 (then (print 1) (new 0)) (print 2) (print 3))");
        prints("send", m, 1, 2, 3, 9);
        new Program(m).main("(send 5 (new 1) (print 2) (print 3))");
        prints("super", m, 2, 3, 4, 5, 9);
        new Program(m).main("(send 2 nil (print 2) (print 3))");
        prints("a send to nil works the arguments out", m, 2, 3);
        ends("a send to nil", m, STUCK, 0);
        new Program(m).main("(super 2 (print 2) (print 3))");
        prints("super in the main term works the arguments out", m, 2, 3);
        ends("super in the main term", m, STUCK, 0);
        prints("call with", plain("(call (then (print 1) (block 0 (print (+ v0 9)))) (print 2))"), 1, 2, 11);
        prints("call of nil with", plain("(call nil (print 2))"), 2);
        prints("then", plain("(then (print 1) (then (print 2) (print 3)))"), 1, 2, 3);
        number("the value of then", plain("(then 1 2)"), 2);
        check.due("then nil", plain("(then 1 nil)").kind(), 1);
    }

    private static void chooseAndLoop() {
        prints("choose works out X alone", plain("(choose (print -1) (print 5) (print 6))"), -1, 5);
        prints("choose works out Y alone", plain("(choose (print 0) (print 5) (print 6))"), 0, 6);
        number("choose has the value", plain("(+ (choose 1 5 6) (choose 0 7 8))"), 13);
        ends("choose takes no turn", plain("(choose 1 5 6)"), DONE, 0);
        ends("choose on nil", plain("(choose nil 5 6)"), STUCK, 0);
        ends("choose on an object", family("(choose (new 0) 5 6)"), STUCK, 1);
        ends("choose on a block", plain("(choose (block -1 1) 5 6)"), STUCK, 1);
        ends("loop on 0", plain("(loop 0 (print 1))"), DONE, 0);
        check.due("the value of a loop", plain("(loop 0 (print 1))").kind(), 1);
        prints("a loop on 0 prints nothing", plain("(loop 0 (print 1))"));
        ends("loop on nil", plain("(loop nil 1)"), STUCK, 0);
        ends("loop on a block", plain("(loop (block -1 1) 1)"), STUCK, 1);
        MessageMachine m = plain("(then (set 0 3) (loop (print v0) (then (print 9) (set 0 (- v0 1)))))");
        prints("a loop of three", m, 3, 9, 2, 9, 1, 9, 0);
        ends("a loop of three", m, DONE, 3);
        check.due("its value", m.kind(), 1);
        m = plain("(then (set 0 3) (loop v0 (set 0 (choose (= v0 3) 2 nil))))");
        ends("a condition that becomes nil", m, STUCK, 2);
        m = plain("(then (set 0 0) (loop (< v0 3) (then (set 1 0) (loop (< v1 2)"
            + " (then (print (+ (* v0 10) v1)) (set 1 (+ v1 1)))) (set 0 (+ v0 1)))) 5)");
        prints("a loop in a loop", m, 0, 1, 10, 11, 20, 21);
        ends("a loop in a loop", m, DONE, 9);
        number("a loop in a sum", plain("(then (set 0 2) (+ 1 (then (loop v0 (set 0 (- v0 1))) v0)))"), 1);
        ends("a return in a loop", plain("(loop 1 (return 4))"), DONE, 1);
    }

    private static void fields() {
        ends("field in the main term", plain("f0"), STUCK, 0);
        ends("set-field in the main term", plain("(setf 0 (print 4))"), STUCK, 0);
        prints("set-field works X out before it is stuck", plain("(setf 0 (print 4))"), 4);
        MessageMachine m = new MessageMachine();
        family(m).method(0, 0, "f1").method(0, 3, "f2").method(0, 1, "(setf 1 v0)").method(0, 4, "(setf 2 (print v0))")
            .main("(send 0 (new 0))");
        check.due("a field at the begin", m.kind(), 1);
        new Program(m).main("(send 3 (new 0))");
        ends("a field that it hasn't", m, STUCK, 2);
        new Program(m).main("(send 3 (new 1))");
        ends("a field that the class below has", m, DONE, 2);
        check.due("it is nil", m.kind(), 1);
        new Program(m).main("(send 4 (new 0) 8)");
        ends("set-field of one that it hasn't", m, STUCK, 2);
        prints("set-field of one that it hasn't", m, 8);
        new Program(m).main("(send 4 (new 1) 8)");
        number("set-field has the value", m, 8);
        new Program(m).main("(then (set 0 (new 0)) (set 1 (new 0)) (send 1 v0 5) (send 1 v1 6) (+ (* (send 0 v0) 10) (send 0 v1)))");
        number("each object has its own fields", m, 56);
        new Program(m).main("(then (set 0 (new 1)) (send 4 v0 3) (send 1 v0 4) (+ (* (send 3 v0) 10) (send 0 v0)))");
        number("each field has its own value", m, 34);
    }

    private static void classes() {
        number("is its class", family("(is 0 (new 0))"), 1);
        number("is the parent's", family("(is 0 (new 1))"), 1);
        number("is not that of the class below", family("(is 1 (new 0))"), 0);
        number("is not another one", family("(is 2 (new 1))"), 0);
        number("nil", family("(is 0 nil)"), 0);
        number("int", family("(is 0 0)"), 0);
        number("block", family("(is 0 (block -1 1))"), 0);
        MessageMachine m = new MessageMachine();
        Program p = new Program(m).newClass(-1, 0);
        for (int c = 0; c < 5; c++) {
            p.newClass(c, 0);
        }
        p.method(0, 0, "7").main("(is 0 (new 5))");
        number("the farthest of its parents", m, 1);
        p.main("(send 0 (new 5))");
        number("the method of the farthest of its parents", m, 7);
    }

    private static void sends() {
        MessageMachine m = new MessageMachine();
        Program p = family(m).method(0, 0, "1").method(1, 0, "2").method(0, 3, "(send 0 self)").method(0, 2, "(- v0 v1)")
            .method(0, 1, "(= v0 nil)").method(0, 4, "(+ (= v1 nil) (+ (= v2 nil) (+ (= v3 nil) (+ (= v4 nil) (= v5 nil)))))");
        p.main("(send 0 (new 0))");
        number("its own method", m, 1);
        ends("send", m, DONE, 2);
        check.due("deepest", m.deepest(), 1);
        p.main("(send 0 (new 1))");
        number("its own one before the parent's", m, 2);
        p.main("(send 3 (new 1))");
        number("the parent's one, with the self", m, 2);
        check.due("deepest", m.deepest(), 2);
        p.main("(send 5 (new 1) 1 2)");
        ends("not understood", m, STUCK, 1);
        p.main("(send 0 (new 2))");
        ends("not understood without a parent", m, STUCK, 1);
        for (String other : new String[] {"nil", "5", "(block -1 1)"}) {
            p.main("(send 0 " + other + ")");
            check.due("send to " + other, m.run(), STUCK);
        }
        p.main("(then (set 0 5) (set 1 5) (send 4 (new 0) 9))");
        number("the other variables are nil", m, 5);
        p.main("(then (set 1 7) (send 1 (new 0) nil))");
        number("nil as argument", m, 1);
        p.method(2, 1, "(then (set 0 (+ v0 1)) (set 1 3) v0)").main("(then (set 0 5) (+ (send 1 (new 2) v0) v0))");
        number("an activation has its own variables", m, 11);
    }

    private static void supers() {
        MessageMachine m = new MessageMachine();
        Program p = new Program(m).newClass(-1, 0).newClass(0, 0).newClass(1, 0).newClass(2, 0)
            .method(0, 0, "(send 3 self)").method(0, 3, "1").method(1, 3, "(+ 10 (super 3))").method(3, 3, "(* 2 (super 3))")
            .method(2, 0, "(super 0)");
        p.main("(send 0 (new 3))");
        number("super from the class of the method, not from that of the self", m, 22);
        ends("super takes a turn", m, DONE, 6);
        check.due("super counts for deepest", m.deepest(), 5);
        p.main("(super 0)");
        ends("super in the main term", m, STUCK, 0);
        p.main("(call (block -1 (super 0)))");
        ends("super in a block of the main term", m, STUCK, 2);
        p.method(0, 3, "(super 3)").main("(send 3 (new 0))");
        ends("super without a parent", m, STUCK, 2);
        p.main("(send 3 (new 1))");
        ends("super without a parent, from a class below", m, STUCK, 3);
        p.method(1, 1, "(super 4 (print v0))").main("(send 1 (new 1) 6)");
        ends("super that the parent does not understand", m, STUCK, 2);
        prints("super that the parent does not understand", m, 6);
        p.method(1, 4, "(super 4 v0)").main("(send 4 (new 1) 6)");
        ends("super that only the class itself understands", m, STUCK, 2);
        p.method(0, 3, "1").method(3, 3, "(call (block -1 (super 3)))").main("(send 3 (new 3))");
        number("super in a block", m, 11);
        p.method(0, 1, "v0").method(3, 1, "(block -1 (super 1 8))").method(2, 1, "(call v0)").method(1, 1, "(+ 40 (super 1 v0))")
            .main("(send 1 (new 2) (send 1 (new 3) 0))");
        check.due("super in a block called elsewhere takes the class of its method", m.run(), STUCK);
        p.main("(call (send 1 (new 3) 0))");
        check.due("class 2 is meant, which calls an int", m.run(), STUCK);
        p.method(2, 1, "(+ 30 (super 1 v0))");
        number("classes 2, 1 and 0 are meant", m, 78);
    }

    private static void blocks() {
        MessageMachine m = plain("(then (set 0 5) (set 1 (block -1 (set 0 (+ v0 1)))) (set 0 7) (call v1) v0)");
        number("a block works in the activation that it keeps", m, 8);
        ends("block and call take a turn each", m, DONE, 2);
        check.due("a call counts for deepest", m.deepest(), 1);
        number("the value of a call", plain("(call (block -1 6))"), 6);
        number("call with", plain("(then (set 0 (block 3 (+ v3 1))) (+ (call v0 5) v3))"), 11);
        for (int v = 0; v < 6; v++) {
            number("block " + v, plain("(call (block " + v + " (* 2 v" + v + ")) 4)"), 8);
        }
        ends("call of a block with v", plain("(call (block 0 1))"), STUCK, 1);
        ends("call with of a block without", plain("(call (block -1 1) (print 2))"), STUCK, 1);
        prints("call with of a block without", plain("(call (block -1 1) (print 2))"), 2);
        for (String other : new String[] {"nil", "5", "(new 0)"}) {
            check.due("call " + other, family("(call " + other + ")").run(), STUCK);
            check.due("call with " + other, family("(call " + other + " 1)").run(), STUCK);
        }
        prints("a block is not worked out when it is made", plain("(block -1 (print 1))"));
        number("call with nil", plain("(then (set 2 5) (call (block 2 (= v2 nil)) nil))"), 1);
        number("a block that sets the variable it is in", plain("(then (set 0 (block -1 (set 0 4))) (call v0) v0)"), 4);
        number("a block in a block keeps the same activation",
            plain("(then (set 0 1) (set 1 (call (block -1 (block -1 (set 0 (+ v0 5)))))) (call v1) v0)"), 6);
        m = new MessageMachine();
        Program p = family(m).method(0, 1, "(block -1 (set 0 (+ v0 1)))").method(0, 0, "(block 2 (then (setf 0 v2) self))")
            .method(0, 3, "f0").main("(then (set 0 50) (set 1 (send 1 (new 0) 5)) (call v1) (call v1))");
        number("a block lives on after its activation", m, 7);
        check.due("deepest", m.deepest(), 1);
        p.main("(then (set 0 50) (set 1 (send 1 (new 0) 5)) (set 2 (send 1 (new 0) 8)) (call v1) (+ (* (call v1) 100) (call v2)))"
            .replace("100", "99"));
        number("each activation has its own variables", m, 7 * 99 + 9);
        p.main("(send 3 (call (send 0 (new 0)) 9))");
        number("the self of a block is that of its activation", m, 9);
    }

    private static void returns() {
        number("return in the main term", plain("(then (return 4) (print 5))"), 4);
        prints("return in the main term", plain("(then (return 4) (print 5))"));
        prints("return works X out", plain("(then (return (print 4)) (print 5))"), 4);
        number("return in a return", plain("(return (+ 1 (return 5)))"), 5);
        check.due("return nil", plain("(return nil)").kind(), 1);
        number("return in a block of the main term", plain("(+ 1 (call (block -1 (return 5))))"), 5);
        MessageMachine m = new MessageMachine();
        Program p = family(m).method(0, 0, "(then (return 4) (print 5))").main("(+ (* 10 (send 0 (new 0))) 1)");
        number("return in a method", m, 41);
        prints("return in a method", m);
        p.method(0, 0, "(then (call (block -1 (then (return 6) (print 5)))) (print 7))");
        number("return in a block ends the method", m, 61);
        prints("return in a block ends the method", m);
        p.method(0, 1, "(+ 1 (call v0))").method(0, 0, "(+ 50 (send 1 self (block -1 (return 7))))");
        number("return through another method", m, 71);
        check.due("its deepest", m.deepest(), 3);
        p.method(0, 0, "(+ 50 (+ 2 (call (block 3 (+ 1 (return v3))) 8)))");
        number("return in a block with v", m, 81);
        p.main("(+ 10 (send 1 (new 0) (block -1 (return 3))))");
        number("return to the main term from below a method", m, 3);
        p.method(0, 3, "(block -1 (return (print 5)))").main("(call (send 3 (new 0)))");
        ends("return to an activation that has ended", m, STUCK, 4);
        prints("X is worked out before", m, 5);
        p.method(0, 3, "(return (block -1 (return (print 5))))");
        ends("return to an activation that has ended by return", m, STUCK, 4);
        p.main("(+ (send 0 (new 0)) (send 0 (new 0)))");
        number("values that wait stay over a return", m, 16);
        p.method(1, 3, "(+ 1 (super 3))").method(0, 3, "(then (return 5) 6)").main("(send 3 (new 1))");
        number("return gives the value of a super", m, 6);
        p.method(0, 1, "(choose (< v0 1) (return 0) (+ v0 (send 1 self (- v0 1))))").main("(send 1 (new 0) 6)");
        number("return ends the newest activation alone", m, 21);
    }

    /** Activations between a return and where it goes to have ended, too. */
    private static void cutOff() {
        MessageMachine m = new MessageMachine();
        Program p = new Program(m).newClass(-1, 2)
            // 3 makes a block that returns from it, keeps it in field 0 of the argument, and calls the block in field 1
            .method(0, 3, "(then (setf 0 (block -1 (return 4))) (call f1) (print 99))")
            // 0 keeps in field 1 a block that returns from it
            .method(0, 0, "(then (setf 1 (block -1 (return 5))) (send 3 self) (print 98))")
            .method(0, 1, "(call f0)")
            .main("(then (set 0 (new 0)) (print (send 0 v0)) (send 1 v0 nil))");
        ends("a return to an activation that was cut off", m, STUCK, 8);
        prints("a return to an activation that was cut off", m, 5);
        // the frame that the cut off activation had is taken by another one, that must not be returned to
        p.main("(then (set 0 (new 0)) (send 0 v0) (send 1 v0 nil) (print 1))");
        ends("its place taken by another method", m, STUCK, 8);
        prints("its place taken by another method", m);
        // a block of an ended activation does not end one that is under way in the same place
        p.method(0, 4, "(block -1 6)").method(0, 1, "(then (call v0) (return 8))")
            .main("(+ (call (send 4 (new 0) 1)) (send 1 (new 0) (send 4 (new 0) 1)))");
        number("blocks of ended activations", m, 14);
        // a block that ends normally leaves its activation under way
        p.method(0, 1, "(then (call (block -1 1)) (call (block -1 (return 2))) 3)").main("(send 1 (new 0) 0)");
        number("a block ends without its activation", m, 2);
    }

    private static void printing() {
        MessageMachine m = plain("(+ (print 3) (print -4))");
        number("print has the value", m, -1);
        prints("print", m, 3, -4);
        check.due("output(-1)", m.output(-1), 0);
        check.due("output of the lowest", m.output(Integer.MIN_VALUE), 0);
        check.due("output of the greatest", m.output(Integer.MAX_VALUE), 0);
        ends("print nil", plain("(then (print 1) (print nil))"), STUCK, 0);
        prints("what was printed before the end counts", plain("(then (print 1) (print nil))"), 1);
        ends("print an object", family("(print (new 0))"), STUCK, 1);
        ends("print a block", plain("(print (block -1 1))"), STUCK, 1);
        String loop = "(then (set 0 0) (loop (< v0 %d) (then (print (- v0 5)) (set 0 (+ v0 1)))) %s)";
        m = plain(String.format(loop, 20, "7"));
        number("20 numbers", m, 7);
        check.due("20 numbers", m.printed(), 20);
        check.due("the first", m.output(0), -5);
        check.due("the last", m.output(19), 14);
        check.due("behind it", m.output(20), 0);
        m = plain(String.format(loop, 21, "7"));
        ends("21 numbers", m, FULL_UP, 21);
        check.due("20 numbers of 21", m.printed(), 20);
        check.due("the last of them", m.output(19), 14);
        check.due("behind it", m.output(20), 0);
        ends("nil after 20 numbers is STUCK", plain(String.format(loop, 20, "(print nil)")), STUCK, 20);
        ends("X is worked out before FULL_UP", plain(String.format(loop, 20, "(print (+ 1 nil))")), STUCK, 20);
        ends("X is worked out before FULL_UP", plain(String.format(loop, 20, "(print (return 1))")), DONE, 20);
    }

    /** A term that takes so many turns in a loop over variable 0, and then is the other one. */
    private static String after(int turns, String then) {
        return String.format("(then (set 0 (+ (* 3 %d) %d)) (loop v0 (set 0 (- v0 1))) %s)", turns / 3, turns % 3, then);
    }

    private static void turns() {
        ends("200 turns", plain(after(199, "(block -1 1)")), DONE, 200);
        String[] takers = {"(loop 1 (print 1))", "(new 0)", "(block -1 1)", "(send 0 v1)", "(call v2)", "(call v3 1)", "(send 1 v1 (print 1))"};
        int[] printed = {0, 0, 0, 0, 0, 0, 1};
        for (int i = 0; i < takers.length; i++) {
            MessageMachine m = new MessageMachine();
            Program p = new Program(m).newClass(-1, 0).method(0, 0, "1").method(0, 1, "1");
            String set = "(then (set 1 (new 0)) (set 2 (block -1 (print 1))) (set 3 (block 5 (print 1))) ";
            p.main(set + after(197, takers[i]) + ")");
            ends("the 201st turn: " + takers[i], m, TIRED, 200);
            check.due("nothing after it: " + takers[i], m.printed(), printed[i]);
            check.due("no object after it: " + takers[i], m.made(0), 1);
            check.due("nothing entered after it: " + takers[i], m.deepest(), 0);
            p.main(set + after(196, takers[i].equals("(loop 1 (print 1))") ? "(loop 1 (return 1))" : takers[i]) + ")");
            ends("the 200th turn: " + takers[i], m, DONE, 200);
        }
        MessageMachine m = new MessageMachine();
        Program p = family(m).method(0, 0, "5").method(1, 0, "(super 0)").main("(then (set 1 (new 1)) " + after(198, "(send 0 v1)") + ")");
        ends("super as the 201st turn", m, TIRED, 200);
        check.due("its deepest", m.deepest(), 1);
        p.main("(then (set 1 (new 1)) " + after(197, "(send 0 v1)") + ")");
        ends("super as the 200th turn", m, DONE, 200);
        p.main(after(200, "(send 0 nil)"));
        ends("STUCK without a turn left", m, STUCK, 200);
        p.main(after(200, "(call 1)"));
        ends("STUCK without a turn left", m, STUCK, 200);
        p.main(after(200, "(loop 0 1)"));
        ends("a loop that ends without a turn left", m, DONE, 200);
    }

    /** Message 1 with n has n + 1 activations under way at once, and then calls the block in v1. */
    private static MessageMachine nested(int n, String innermost) {
        MessageMachine m = new MessageMachine();
        new Program(m).newClass(-1, 0).newClass(0, 0)
            .method(0, 2, "(choose v0 (+ 1 (send 2 self (- v0 1) v1)) " + innermost + ")")
            .method(0, 0, "7").method(1, 3, "(super 0)").main("(send 2 (new 0) " + n + " (block -1 (print 3)))");
        return m;
    }

    private static void depth() {
        number("20 under way", nested(19, "0"), 19);
        check.due("20 under way", nested(19, "0").deepest(), 20);
        ends("a 21st method", nested(20, "0"), DEEP, 23);
        check.due("a 21st method", nested(20, "0").deepest(), 20);
        ends("a block as the 20th", nested(18, "(call v1)"), DONE, 22);
        check.due("a block as the 20th", nested(18, "(call v1)").deepest(), 20);
        ends("a block as the 21st", nested(19, "(call v1)"), DEEP, 23);
        prints("a block as the 21st", nested(19, "(call v1)"));
        check.due("a block as the 21st", nested(19, "(call v1)").deepest(), 20);
        ends("a block with v as the 21st", nested(19, "(call (block 3 (print 1)) (print 2))"), DEEP, 24);
        prints("a block with v as the 21st", nested(19, "(call (block 3 (print 1)) (print 2))"), 2);
        ends("super as the 20th", nested(17, "(send 3 (new 1))"), DONE, 23);
        ends("super as the 21st", nested(18, "(send 3 (new 1))"), DEEP, 24);
        ends("STUCK when 20 are under way", nested(19, "(send 0 nil)"), STUCK, 22);
        ends("STUCK when 20 are under way", nested(19, "(call nil)"), STUCK, 22);
        ends("one that is left makes room", nested(18, "(+ (send 0 self) (+ (call v1) (send 0 self)))"), DONE, 24);
        MessageMachine m = nested(19, "(then " + after(178, "nil") + " (send 0 self))");
        ends("TIRED before DEEP", m, TIRED, 200);
        check.due("TIRED before DEEP", m.deepest(), 20);
        m = nested(19, "(then " + after(177, "nil") + " (send 0 self))");
        ends("DEEP with the last turn", m, DEEP, 200);
        m = nested(10, "(return 0)");
        new Program(m).main("(+ (send 2 (new 0) 12 nil) (send 2 (new 0) 3 nil))");
        number("deepest is the greatest, not the last", m, 15);
        check.due("deepest is the greatest, not the last", m.deepest(), 13);
        m = new MessageMachine();
        new Program(m).newClass(-1, 0).method(0, 1, "(call v0)").method(0, 0, "(send 1 self (block -1 (return 1)))")
            .main("(then (set 0 0) (loop (< v0 30) (then (send 0 (new 0)) (set 0 (+ v0 1)))) v0)");
        number("what a return cuts off is no longer under way", m, 30);
        check.due("what a return cuts off is no longer under way", m.deepest(), 3);
    }

    private static void made() {
        MessageMachine m = family("(then (set 0 0) (loop (< v0 3) (then (new 0) (new 1) (new 1) (set 0 (+ v0 1)))) (new 0))");
        check.due("made(0)", m.made(0), 4);
        check.due("made(1)", m.made(1), 6);
        check.due("made(2)", m.made(2), 0);
        for (int c : new int[] {Integer.MIN_VALUE, -1, 3, 5, 6, Integer.MAX_VALUE}) {
            check.due("made(" + c + ")", m.made(c), 0);
        }
        check.due("made in a run that is STUCK", family("(then (new 2) (+ (new 0) 1))").made(2), 1);
        m = family("(loop 1 (then" + " (new 2)".repeat(30) + "))");
        ends("as many objects as turns allow", m, TIRED, 200);
        check.due("as many objects as turns allow", m.made(2), 193);
        m = family("(then (set 0 6) (loop v0 (then" + " (set 1 (new 2))".repeat(12) + " (set 2 (block -1 v2)) (set 0 (- v0 1)))) v2)");
        ends("many things", m, DONE, 84);
        check.due("many things", m.reach(), 1);
        m = family("(loop 1 (new 1))");
        ends("new until TIRED", m, TIRED, 200);
        check.due("made in a run that is TIRED", m.made(1), 100);
        check.due("not of classes that have it among their parents", m.made(0), 0);
        check.due("blocks are no objects", family("(block -1 1)").made(0), 0);
    }

    private static void reach() {
        check.due("an int", family("(then (set 0 (new 0)) 5)").reach(), 0);
        check.due("nil", family("(then (set 0 (new 0)) nil)").reach(), 0);
        check.due("an object", family("(then (set 0 (new 0)) (new 0))").reach(), 1);
        check.due("a block and the variables", family("(then (set 0 (new 0)) (set 5 (new 1)) (set 3 v0) (block -1 1))").reach(), 2);
        check.due("as they are at the end", family("(then (set 0 (new 0)) (set 1 (block -1 1)) (set 0 nil) (set 2 (new 1)) (set 3 (new 1)) v1)")
            .reach(), 2);
        check.due("not DONE", family("(then (set 0 (new 0)) (+ v0 1))").reach(), 0);
        check.due("return", family("(return (new 0))").reach(), 1);
        MessageMachine m = new MessageMachine();
        Program p = family(m).method(0, 2, "(then (setf 0 v0) (setf 1 v1) self)").method(1, 1, "(then (setf 2 v0) self)")
            .method(0, 0, "(block -1 self)").method(0, 3, "nil")
            .main("(send 2 (new 0) (send 2 (new 0) (new 2) (new 2)) (new 2))");
        check.due("fields of fields", m.reach(), 5);
        p.main("(then (set 0 (new 0)) (send 2 v0 v0 v0))");
        check.due("itself once", m.reach(), 1);
        p.main("(then (set 0 (new 0)) (set 1 (new 0)) (send 2 v0 v1 v1) (send 2 v1 v0 nil) v1)");
        check.due("a ring of two", m.reach(), 2);
        p.main("(then (new 0) (send 1 (new 1) (new 2)))");
        check.due("the last field", m.reach(), 2);
        p.main("(send 0 (send 2 (new 0) (new 2) nil))");
        check.due("the self of a block's activation, and its fields", m.reach(), 2);
        p.main("(send 2 (new 0) (send 0 (new 0)) (send 0 (new 1)))");
        check.due("blocks in fields", m.reach(), 3);
        p.main("(then (set 0 (new 2)) (set 1 (send 2 (new 0) (block -1 1) nil)) v1)");
        check.due("a block that keeps the variable with the object", m.reach(), 2);
        p.method(0, 1, "(then (set 5 (new 2)) (set 1 v0) (block -1 1))").main("(then (set 4 (new 2)) (send 1 (new 0) (send 1 (new 0) nil)))");
        check.due("a block in a variable of another one's activation", m.reach(), 4);
        m = new MessageMachine();
        p = family(m).method(0, 2, "(then (setf 0 v0) (setf 1 v1) self)");
        p.main("(then (send 2 (new 0) (new 2) (new 2)) (block -1 1))");
        check.due("not the variables of another activation", m.reach(), 0);
        p.main("(then (set 0 (new 0)) (send 2 (new 0) (new 2) (new 2)) v0)");
        check.due("not the fields of another object", m.reach(), 1);
    }

    private static void tidy() {
        MessageMachine m = new MessageMachine();
        for (int n : new int[] {Integer.MIN_VALUE, -1, 0, 51, Integer.MAX_VALUE}) {
            check.due("tidy(" + n + ")", m.tidy(n), MessageMachine.BAD_ARG);
        }
        for (int n = 1; n <= 50; n++) {
            check.due("tidy(" + n + ")", m.tidy(n), 0);
        }
        family(m).method(0, 1, "(setf 0 v0)").main("(then (set 0 (new 0)) (set 3 v0) (set 1 0) (loop (< v1 30)"
            + " (then (set 2 (new 0)) (send 1 v2 v0) (set 0 v2) (set 1 (+ v1 1)))) (send 1 v3 (block -1 1)) (set 3 nil) v0)").push("1");
        for (int n : new int[] {50, 7, 2, 1, 0, 51}) {
            m.tidy(n);
            ends("tidied", m, DONE, 93);
            check.due("tidied: kind", m.kind(), 4);
            check.due("tidied: reach", m.reach(), 31);
            check.due("tidied: made", m.made(0), 31);
            check.due("tidied: depth", m.depth(), 1);
        }
    }

    private static void tellsOfTheRunNow() {
        MessageMachine m = new MessageMachine();
        Program p = family(m).method(0, 0, "(print 4)").main("(then (send 0 (new 0)) (new 1))");
        for (int i = 0; i < 2; i++) {
            check.due("made", m.made(1), 1);
            check.due("reach", m.reach(), 1);
            check.due("kind", m.kind(), 5);
            check.due("printed", m.printed(), 1);
            check.due("output", m.output(0), 4);
            check.due("turns", m.turns(), 3);
            check.due("deepest", m.deepest(), 1);
            check.due("run", m.run(), DONE);
        }
        p.push("5").push("(new 0)").push("(print 8)");
        m.newClass(-1, 0);
        m.drop();
        m.depth();
        m.tidy(3);
        check.due("calls that push do not change it", m.kind(), 5);
        check.due("calls that push do not change it", m.printed(), 1);
        check.due("depth stays over questions", m.depth(), 2);
        p.method(0, 0, "(then (print 5) (print 6))");
        prints("a new method changes it", m, 5, 6);
        p.method(1, 0, "7");
        prints("a method of another class does not", m, 5, 6);
        p.main("(send 0 (new 1))");
        number("a new main term", m, 7);
        m.main();
        check.due("the main term from the stack", m.kind(), 4);
        m.forget();
        check.due("forget", m.kind(), 1);
        check.due("forget", m.made(0), 0);
    }

    /** The most that the stacks inside must hold: 20 methods, each with terms as deep as there is room for. */
    private static void longRuns() {
        MessageMachine m = new MessageMachine();
        String deep = "(choose v0 " + "(is 0 ".repeat(88) + "(send 1 self (- v0 1))" + ")".repeat(88) + " 0)";
        new Program(m).newClass(-1, 0).method(0, 1, deep).main("(send 1 (new 0) 19)");
        number("deep terms in 20 methods", m, 0);
        check.due("deep terms in 20 methods", m.deepest(), 20);
        check.due("90 blocks in each other", plain("(block -1 ".repeat(90) + "5" + ")".repeat(90)).kind(), 3);
        m = plain("(call (block -1 (+ ".repeat(20) + "5" + " 1)))".repeat(20));
        number("20 calls in each other", m, 25);
        check.due("20 calls in each other", m.deepest(), 20);
        m = plain("(then (set 0 0) (loop (< v0 50) (then (set 0 (+ v0 1)) " + "(set 1 ".repeat(80) + "v0" + ")".repeat(80) + ")) v1)");
        number("a long loop of a deep term", m, 50);
    }
}

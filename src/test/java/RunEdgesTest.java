import java.util.List;
import java.util.function.Consumer;
import java.util.function.Supplier;
import java.util.function.ToIntFunction;

/** The boundary cases that the document names for the questions about a run: promises 12 to 22, one sentence after the other. */
public final class RunEdgesTest {
    private static final int DONE = MessageMachine.DONE;
    private static final int STUCK = MessageMachine.STUCK;
    private static final int TIRED = MessageMachine.TIRED;
    private static final int DEEP = MessageMachine.DEEP;
    private static final int FULL_UP = MessageMachine.FULL_UP;
    private static final int LOWEST = Integer.MIN_VALUE;
    private static final int GREATEST = Integer.MAX_VALUE;
    private static final Check check = new Check();

    // One main term for each way in which a run ends; each makes an object of class 0 and two of class 1, and prints 4 and -5 before.
    private static final String BEFORE = "(then (new 0) (set 0 (new 1)) (new 1) (print 4) (print -5) ";
    private static final String[] MAINS = {
        BEFORE + "v0)",
        BEFORE + "(+ v0 1))",
        BEFORE + "(loop 1 1))",
        BEFORE + "(send 0 v0))",
        BEFORE + "(loop 1 (print 6)))",
    };
    private static final int[] TURNS = {3, 3, 200, 24, 22};
    private static final int[] DEEPEST = {0, 0, 0, 20, 0};
    private static final int[] PRINTED = {2, 2, 2, 2, 20};

    public static void main(String[] args) {
        howARunEnds();
        kindOfTheValue();
        valueOfTheRun();
        printedNumbers();
        outputs();
        turns();
        deepest();
        madeOfAClass();
        reachNotDone();
        reachFields();
        reachBlocks();
        reachAtTheEnd();
        reachMany();
        runCalledOrNot();
        callsThatChangeNothing();
        callsThatChangeIt();
        deepAndTired();
        cutOff();
        tidyOverLongRuns();
        tidyWhileValuesWait();
        questionsChangeNothing();
        longestRun();
        noCallThrows();
        manyCalls();
        check.end();
    }

    private static MessageMachine family(String... lines) {
        String[] all = new String[lines.length + 3];
        all[0] = "class -1 2";
        all[1] = "class 0 1";
        all[2] = "class -1 0";
        System.arraycopy(lines, 0, all, 3, lines.length);
        return Program.of(all);
    }

    private static MessageMachine ending(int how) {
        return family("method 1 0 (send 0 self)", "main " + MAINS[how]);
    }

    private static void howARunEnds() {
        check.said("`DONE = 0`, `STUCK = 1`, `TIRED = 2`, `DEEP = 3`, `FULL_UP = 4`: How runs end.");
        for (int how = DONE; how <= FULL_UP; how++) {
            MessageMachine m = ending(how);
            check.due("run", m.run(), how);
            check.due("run again", m.run(), how);
            check.due("turns", ending(how).turns(), TURNS[how]);
            check.due("deepest", ending(how).deepest(), DEEPEST[how]);
        }
        check.said("A RUN works out the MAIN term in an activation with self nil and all variables nil, and ends DONE with its value.");
        check.due("the self", Program.ofMain("self").kind(), 1);
        for (int v = 0; v < 6; v++) {
            MessageMachine m = Program.ofMain("v" + v);
            check.due("variable " + v, m.kind(), 1);
            new Program(m).main("(set " + v + " 5)");
            check.due("a run that sets it", m.value(), 5);
            new Program(m).main("v" + v);
            check.due("variable " + v + " in the run after", m.kind(), 1);
        }
    }

    private static void kindOfTheValue() {
        check.said("The value of the run: 0 if it is not DONE, 1 for nil, 2 for an int, 3 for a block, 4 + c for an object of class c.");
        for (int how = STUCK; how <= FULL_UP; how++) {
            check.due("kind of a run that ends " + how, ending(how).kind(), 0);
        }
        check.due("nil", Program.ofMain("nil").kind(), 1);
        for (String n : new String[] {"0", "1", "-1", "99", "-99"}) {
            check.due("int " + n, Program.ofMain(n).kind(), 2);
        }
        for (int v = -1; v <= 5; v++) {
            check.due("block " + v, Program.ofMain("(block " + v + " 5)").kind(), 3);
        }
        for (int c = 0; c < 6; c++) {
            MessageMachine m = Program.of("class -1 0", "class 0 0", "class 1 0", "class -1 0", "class 3 0", "class -1 0",
                "main (new " + c + ")");
            check.due("object of class " + c, m.kind(), 4 + c);
            new Program(m).main("(then (new 2) (new 5) (block -1 1) (return (new " + c + ")))");
            check.due("a later object of class " + c, m.kind(), 4 + c);
        }
    }

    private static void valueOfTheRun() {
        check.said("The value of the run if it is DONE and its value an int; else 0.");
        for (int n : new int[] {-99, -1, 0, 1, 99}) {
            check.due("int " + n, Program.ofMain("" + n).value(), n);
        }
        String lowest = "(* (* (* (* 64 64) (* 64 64)) 64) 2)";
        check.due("the lowest", Program.ofMain(lowest).value(), LOWEST);
        check.due("the greatest", Program.ofMain("(- " + lowest + " 1)").value(), GREATEST);
        check.due("nil", Program.ofMain("(then 7 nil)").value(), 0);
        check.due("a block", Program.ofMain("(then 7 (block -1 1) (block -1 7))").value(), 0);
        check.due("an object", family("main (then 7 (new 0) (new 1))").value(), 0);
        for (int how = STUCK; how <= FULL_UP; how++) {
            check.due("a run that ends " + how, ending(how).value(), 0);
        }
        MessageMachine m = Program.ofMain("7");
        check.due("an int", m.value(), 7);
        new Program(m).main("(+ 7 nil)");
        check.due("a STUCK run after it", m.value(), 0);
    }

    private static void printedNumbers() {
        check.said("`int printed()`: How many numbers the run prints.");
        for (int count = 0; count <= 22; count++) {
            MessageMachine m = Program.ofMain("(then (set 0 " + count + ") (loop v0 (then (print v0) (set 0 (- v0 1)))))");
            check.due(count + " prints", m.printed(), Math.min(count, 20));
            check.due(count + " prints: run", m.run(), count <= 20 ? DONE : FULL_UP);
        }
        check.said("what was printed before the end counts.");
        for (int how = DONE; how <= FULL_UP; how++) {
            check.due("a run that ends " + how, ending(how).printed(), PRINTED[how]);
            check.due("a run that ends " + how, ending(how).output(0), 4);
            check.due("a run that ends " + how, ending(how).output(1), -5);
        }
    }

    private static void outputs() {
        check.said("The k-th number it prints (0 is the first); 0 if there is none.");
        for (int count : new int[] {0, 1, 2, 19, 20, 21}) {
            MessageMachine m = Program.ofMain("(then (set 0 0) (loop (< v0 " + count + ") (print (- (set 0 (+ v0 1)) 50))))");
            int printed = Math.min(count, 20);
            for (int k = -2; k <= 22; k++) {
                check.due("output(" + k + ") of " + count, m.output(k), k >= 0 && k < printed ? k - 49 : 0);
            }
            for (int k : new int[] {LOWEST, LOWEST + 1, -100, 100, GREATEST - 1, GREATEST}) {
                check.due("output(" + k + ") of " + count, m.output(k), 0);
            }
        }
        MessageMachine m = Program.ofMain("(then (print 1) (print 2) (print 3))");
        check.due("the third", m.output(2), 3);
        new Program(m).main("(print 9)");
        check.due("the first of another run", m.output(0), 9);
        check.due("a second that it does not print", m.output(1), 0);
        check.due("a third that it does not print", m.output(2), 0);
        m.forget();
        check.due("none after forget", m.output(0), 0);
    }

    private static void turns() {
        check.said("`int turns()`: The number of turns that the run takes.");
        for (int n : new int[] {0, 1, 2, 199, 200, 201, 250}) {
            MessageMachine m = Program.ofMain("(then (set 0 (+ (* 5 " + n / 5 + ") " + n % 5 + ")) (loop v0 (set 0 (- v0 1))))");
            check.due(n + " turns", m.turns(), Math.min(n, 200));
            check.due(n + " turns: run", m.run(), n <= 200 ? DONE : TIRED);
        }
        MessageMachine m = family("method 0 0 1", "method 1 3 (super 0)", "main (send 3 (new 1))");
        check.due("new, send and super", m.turns(), 3);
        check.due("block and call", Program.ofMain("(call (block -1 1))").turns(), 2);
        check.due("block and call with", Program.ofMain("(call (block 0 1) 5)").turns(), 2);
        new Program(m).main("5");
        check.due("another run counts anew", m.turns(), 0);
    }

    private static void deepest() {
        check.said("The greatest number of methods and blocks under way at once (the main term not counted).");
        check.due("the main term alone", Program.ofMain("(then (block -1 1) 5)").deepest(), 0);
        for (int n = 1; n <= 22; n++) {
            MessageMachine m = family("method 0 1 (choose (< 1 v0) (send 1 self (- v0 1)) 5)", "main (send 1 (new 0) " + n + ")");
            check.due(n + " methods", m.deepest(), Math.min(n, 20));
            check.due(n + " methods: run", m.run(), n <= 20 ? DONE : DEEP);
            m = Program.ofMain("(then (set 0 " + n + ") (set 1 (block -1 (choose (set 0 (- v0 1)) (call v1) 5))) (call v1))");
            check.due(n + " blocks", m.deepest(), Math.min(n, 20));
            check.due(n + " blocks: run", m.run(), n <= 20 ? DONE : DEEP);
        }
        MessageMachine m = family("method 0 1 (choose (< 1 v0) (send 1 self (- v0 1)) 5)",
            "main (then (set 0 (new 0)) (send 1 v0 2) (send 1 v0 7) (send 1 v0 3))");
        check.due("the greatest, not the last and not the sum", m.deepest(), 7);
        new Program(m).main("(call (block -1 1))");
        check.due("another run counts anew", m.deepest(), 1);
        m = family("method 0 0 (+ (call (block -1 1)) (call (block -1 2)))", "main (send 0 (new 0))");
        check.due("one after the other", m.deepest(), 2);
        m = family("method 0 0 (call (block -1 (call (block -1 (return 3)))))", "main (then (set 0 (new 0)) (send 0 v0) (send 0 v0) (send 0 v0))");
        check.due("a return leaves what it cuts off", m.deepest(), 3);
        m = family("method 1 0 (super 0)", "method 0 0 5", "main (send 0 (new 1))");
        check.due("super", m.deepest(), 2);
    }

    private static void madeOfAClass() {
        check.said("How many objects of class c the run makes; 0 if there is no class c.");
        for (int n = 0; n <= 6; n++) {
            MessageMachine m = Machines.withClasses(n);
            if (n > 0) {
                new Program(m).main("(then (new 0) (new " + (n - 1) + "))");
            }
            for (int c = -1; c <= 7; c++) {
                int due = n == 1 && c == 0 ? 2 : n > 1 && (c == 0 || c == n - 1) ? 1 : 0;
                check.due("made(" + c + ") with " + n + " classes", m.made(c), due);
            }
            check.due("made of the lowest", m.made(LOWEST), 0);
            check.due("made of the greatest", m.made(GREATEST), 0);
        }
        check.said("made counts the objects of the whole run, however it ends, of just this class (not of classes that have it among their parents).");
        for (int how = DONE; how <= FULL_UP; how++) {
            check.due("made(0) of a run that ends " + how, ending(how).made(0), 1);
            check.due("made(1) of a run that ends " + how, ending(how).made(1), 2);
            check.due("made(2) of a run that ends " + how, ending(how).made(2), 0);
        }
        MessageMachine m = family("main (loop 1 (then (new 0) (new 2) (new 2)))");
        check.due("made in 200 turns", m.made(0), 50);
        check.due("made in 200 turns", m.made(2), 100);
        m = family("main (loop 1 (then " + "(new 1) ".repeat(48) + "))");
        check.due("made in 200 turns", m.made(1), 195);
        check.due("none of its parent", m.made(0), 0);
        m = family("method 1 0 (then (new 0) (send 0 self))", "main (send 0 (new 1))");
        check.due("made in a DEEP run", m.made(0), 20);
        m.forget();
        check.due("none after forget", m.made(0), 0);
        m.newClass(-1, 0);
        check.due("none of a class after forget", m.made(0), 0);
    }

    private static void reachNotDone() {
        check.said("0 if it is not DONE.");
        for (int how = STUCK; how <= FULL_UP; how++) {
            check.due("reach of a run that ends " + how, ending(how).reach(), 0);
        }
        MessageMachine m = family("main (new 0)");
        check.due("reach of a run that is DONE", m.reach(), 1);
        new Program(m).main("(then (set 0 (new 0)) (send 0 v0))");
        check.due("a STUCK run after it", m.reach(), 0);
    }

    private static void reachFields() {
        check.said("it itself if it is an object; the values of the fields of an object reached;");
        check.due("nil", family("main (then (set 0 (new 0)) nil)").reach(), 0);
        check.due("an int", family("main (then (set 0 (new 0)) 0)").reach(), 0);
        check.due("an object", family("main (then (set 0 (new 0)) (new 0))").reach(), 1);
        for (int k = 0; k < 4; k++) {
            MessageMachine m = Program.of("class -1 4", "method 0 1 (then (setf " + k + " v0) self)", "method 0 0 (setf " + k + " nil)",
                "main (send 1 (new 0) (new 0))");
            check.due("field " + k, m.reach(), 2);
            new Program(m).main("(send 1 (new 0) (send 1 (new 0) (new 0)))");
            check.due("field " + k + " of field " + k, m.reach(), 3);
            new Program(m).main("(then (set 0 (new 0)) (send 1 v0 v0))");
            check.due("itself in field " + k, m.reach(), 1);
            new Program(m).main("(then (set 0 (new 0)) (send 1 v0 (new 0)) (send 0 v0) v0)");
            check.due("a value that was in field " + k, m.reach(), 1);
            new Program(m).main("(then (set 0 (new 0)) (set 1 (new 0)) (send 1 v0 v1) (send 1 v1 v0) v1)");
            check.due("a ring over field " + k, m.reach(), 2);
            new Program(m).main("(then (set 0 (new 0)) (send 1 v0 0) v0)");
            check.due("an int in field " + k, m.reach(), 1);
            new Program(m).main("(then (new 0) (set 0 (new 0)) (send 1 v0 0) (send 1 v0 2) (new 0) v0)");
            check.due("ints are not the objects of their number", m.reach(), 1);
        }
        MessageMachine m = Program.of("class -1 4", "class -1 1", "method 1 1 (then (setf 0 v0) self)",
            "method 0 2 (then (setf 0 v0) (setf 1 v1) (setf 2 v1) (setf 3 (new 0)) self)",
            "main (send 2 (new 0) (send 1 (new 1) (new 0)) (new 1))");
        check.due("each object once", m.reach(), 5);
    }

    private static void reachBlocks() {
        check.said("for a block reached the self and the values of the variables of the activation that it keeps,");
        check.due("a block of the main term", Program.ofMain("(block -1 1)").reach(), 0);
        for (int v = 0; v < 6; v++) {
            check.due("variable " + v, family("main (then (set " + v + " (new 0)) (block -1 1))").reach(), 1);
            check.due("the block's v " + v, family("main (then (set 5 (block " + v + " v" + v + ")) (set " + v + " (new 0)) (block " + v + " 1))")
                .reach(), 1);
            MessageMachine m = family("method 0 0 (then (set " + v + " (new 2)) (block -1 1))", "main (send 0 (new 1))");
            check.due("the self and variable " + v, m.reach(), 2);
        }
        check.due("the block itself in a variable", family("main (set 0 (block -1 1))").reach(), 0);
        check.due("six variables", family("main (then (set 0 (new 0)) (set 1 (new 0)) (set 2 (new 0)) (set 3 (new 0)) (set 4 (new 0))"
            + " (set 5 (new 0)) (block -1 1))").reach(), 6);
        MessageMachine m = family("method 0 0 (block -1 1)", "method 0 1 (then (setf 0 v0) self)", "method 1 1 (then (set 3 (new 2)) (block -1 self))",
            "method 2 1 (block -1 v0)", "main (send 0 (new 0))");
        check.due("the self", m.reach(), 1);
        new Program(m).main("(send 1 (new 0) (send 1 (new 1) (new 2)))");
        check.due("a block in a field, with its self, its argument and its variable", m.reach(), 4);
        new Program(m).main("(send 1 (new 2) (send 1 (new 2) (send 1 (new 2) 5)))");
        check.due("blocks in variables of blocks", m.reach(), 3);
        new Program(m).main("(then (set 0 (new 0)) (send 1 (new 2) 5))");
        check.due("not the variables of the main term", m.reach(), 1);
        new Program(m).main("(then (send 1 (new 1) (new 2)) (block -1 1))");
        check.due("not those of an activation that no block reached keeps", m.reach(), 0);
        new Program(m).main("(send 1 (new 2) (block -1 1))");
        check.due("a block of the main term in a variable", m.reach(), 1);
        new Program(m).main("(then (set 0 (new 0)) (set 1 (new 0)) (send 1 (new 2) (block -1 1)))");
        check.due("with the variables of the main term", m.reach(), 3);
    }

    private static void reachAtTheEnd() {
        check.said("as they are at the end of the run.");
        check.due("a variable set later", family("main (then (set 1 (block -1 1)) (set 0 (new 0)) v1)").reach(), 1);
        check.due("a variable that lost its object", family("main (then (set 0 (new 0)) (set 1 (block -1 1)) (set 0 nil) v1)").reach(), 0);
        check.due("a variable set in the block", family("main (then (set 1 (block -1 (set 0 (new 0)))) (call v1) v1)").reach(), 1);
        check.due("a block that was not called", family("main (then (set 1 (block -1 (set 0 (new 0)))) v1)").reach(), 0);
        check.due("the v of a call with", family("main (then (set 1 (block 4 1)) (call v1 (new 0)) v1)").reach(), 1);
        MessageMachine m = family("method 0 0 (block 3 1)", "main (then (set 1 (send 0 (new 0))) (call v1 (new 2)) v1)");
        check.due("in an activation that has ended", m.reach(), 2);
        m = family("method 0 1 (then (setf 0 v0) self)", "method 0 0 (block -1 (setf 0 nil))",
            "main (then (set 0 (send 1 (new 0) (new 2))) (call (send 0 v0)) v0)");
        check.due("a field that lost its object", m.reach(), 1);
        m = family("main (then (set 0 (new 0)) (set 1 (block -1 1)) (return v1))");
        check.due("after a return in the main term", m.reach(), 1);
        m = family("method 0 1 (then (set 3 (new 2)) (set 4 self) (call v0))", "main (then (set 2 (new 2)) (send 1 (new 0) (block -1 (return (block -1 1)))))");
        check.due("after a return that cut a method off", m.reach(), 1);
    }

    private static void reachMany() {
        MessageMachine m = Program.of("class -1 4", "class -1 0",
            "method 0 1 (then (setf 0 v0) (setf 1 (new 1)) (setf 2 (new 1)) (setf 3 (new 1)) self)",
            "main (then (set 0 33) (loop v0 (then (set 1 (send 1 (new 0) v1)) (set 0 (- v0 1)))) v1)");
        check.due("a long chain: run", m.run(), DONE);
        check.due("a long chain: turns", m.turns(), 33 * 6);
        check.due("a long chain: reach", m.reach(), 33 * 4);
        check.due("a long chain: made", m.made(1), 33 * 3);
        m = Program.of("class -1 1", "method 0 1 (then (setf 0 v0) (block -1 1))",
            "main (then (set 0 49) (loop v0 (then (set 1 (send 1 (new 0) v1)) (set 0 (- v0 1)))) v1)");
        check.due("a chain of blocks: run", m.run(), DONE);
        check.due("a chain of blocks: turns", m.turns(), 49 * 4);
        check.due("a chain of blocks: reach", m.reach(), 49);
    }

    private static final List<ToIntFunction<MessageMachine>> QUESTIONS = List.of(MessageMachine::run, MessageMachine::kind,
        MessageMachine::value, MessageMachine::printed, m -> m.output(0), m -> m.output(1), MessageMachine::turns,
        MessageMachine::deepest, m -> m.made(0), m -> m.made(1), MessageMachine::reach);

    private static void runCalledOrNot() {
        check.said("kind, value, printed, output, turns, deepest, made and reach tell of the run that run would make now, whether run was called"
            + " before or not;");
        for (int how = DONE; how <= FULL_UP; how++) {
            int other = (how + 1) % 5;
            for (int q = 0; q < QUESTIONS.size(); q++) {
                ToIntFunction<MessageMachine> question = QUESTIONS.get(q);
                MessageMachine asked = ending(how);
                asked.run();
                int due = question.applyAsInt(asked);
                check.due("question " + q + " as the first", question.applyAsInt(ending(how)), due);
                check.due("question " + q + " asked twice", question.applyAsInt(asked), due);
                for (ToIntFunction<MessageMachine> before : QUESTIONS) {
                    MessageMachine m = ending(how);
                    before.applyAsInt(m);
                    check.due("question " + q + " after another one", question.applyAsInt(m), due);
                    m = ending(other);
                    before.applyAsInt(m);
                    new Program(m).main(MAINS[how]);
                    check.due("question " + q + " of a new main term, after another question", question.applyAsInt(m), due);
                }
            }
            check.same("all questions", Looks.run(ending(how)), Looks.run(runThen(ending(how))));
        }
    }

    private static MessageMachine runThen(MessageMachine m) {
        m.run();
        return m;
    }

    private static void callsThatChangeNothing() {
        check.said("drop, depth, tidy and the calls that push do not change what they tell.");
        List<Consumer<MessageMachine>> calls = List.of(MessageMachine::drop, MessageMachine::depth, m -> m.tidy(1), m -> m.tidy(50), m -> m.tidy(0),
            m -> m.leaf(0, 9), m -> m.leaf(1, 0), m -> m.leaf(2, 0), m -> m.leaf(3, 0), m -> m.leaf(4, 0), m -> m.leaf(5, 1), m -> m.leaf(6, 0),
            m -> m.one(0, 0), m -> m.one(1, 0), m -> m.one(2, 0), m -> m.one(3, -1), m -> m.one(4, 0), m -> m.one(5, 0), m -> m.one(6, 0),
            m -> m.one(7, 0), m -> m.one(8, 1), m -> m.two(0, 0), m -> m.two(5, 0), m -> m.two(6, 0), m -> m.two(7, 0), m -> m.two(8, 1),
            m -> m.two(9, 2), m -> m.three(0, 0), m -> m.three(1, 2), m -> m.leaf(0, 100), m -> m.one(9, 0), m -> m.two(10, 0), m -> m.three(2, 0));
        for (int how = DONE; how <= FULL_UP; how++) {
            for (int i = 0; i < calls.size(); i++) {
                MessageMachine m = ending(how);
                MessageMachine without = ending(how);
                new Program(m).push("1").push("2").push("3");
                new Program(without).push("1").push("2").push("3");
                calls.get(i).accept(m);
                check.same("call " + i, withoutDepth(m), withoutDepth(without));
                calls.get(i).accept(m);
                check.same("call " + i + " after questions", withoutDepth(m), withoutDepth(without));
            }
        }
        MessageMachine m = ending(DONE);
        String before = Looks.run(m);
        m.newClass(0, 0);
        check.same("a new class", Looks.run(m), before);
    }

    private static String withoutDepth(MessageMachine m) {
        return Looks.run(m).replaceAll("depth.*", "");
    }

    private static void questionsChangeNothing() {
        check.said("A refused call answers the code named and changes nothing.");
        for (int q = 0; q < QUESTIONS.size(); q++) {
            ToIntFunction<MessageMachine> question = QUESTIONS.get(q);
            check.unseen("question " + q, () -> Machines.rich(3), question, question.applyAsInt(Machines.rich(3)));
            check.unseen("question " + q + " with 100 terms", () -> Machines.full(8), question, question.applyAsInt(Machines.full(8)));
            check.unseen("question " + q + " of a new object", MessageMachine::new, question, question.applyAsInt(new MessageMachine()));
        }
        for (int k : new int[] {LOWEST, -1, 20, 21, GREATEST}) {
            check.unseen("output(" + k + ")", () -> Machines.rich(3), m -> m.output(k), 0);
            check.unseen("made(" + k + ")", () -> Machines.rich(3), m -> m.made(k), 0);
        }
    }

    private static void callsThatChangeIt() {
        check.said("tell of the run that run would make now");
        MessageMachine m = family("method 0 0 (print 4)", "main (send 0 (new 1))");
        check.due("before", m.value(), 4);
        new Program(m).method(1, 0, "(then (print 5) (print 6))");
        check.due("after a method", m.value(), 6);
        check.due("after a method", m.printed(), 2);
        new Program(m).method(0, 0, "(print 8)");
        check.due("after a method that is not meant", m.value(), 6);
        new Program(m).method(1, 0, "(new 2)");
        check.due("after a method that replaces it", m.kind(), 6);
        check.due("after a method that replaces it", m.made(2), 1);
        new Program(m).main("(block -1 1)");
        check.due("after main", m.kind(), 3);
        check.due("after main", m.made(2), 0);
        check.due("after main", m.turns(), 1);
        m.forget();
        check.due("after forget", m.kind(), 1);
        check.due("after forget", m.turns(), 0);
    }

    private static void deepAndTired() {
        check.said("A run that ends DEEP has deepest 20, one that ends TIRED has turns 200;");
        String[] deep = {"(send 0 (new 1))", "(then (set 0 (block -1 (call v0))) (call v0))", "(then (set 0 (block 1 (call v0 v1))) (call v0 5))",
            "(then (set 1 (new 1)) (set 0 (block -1 (send 1 v1 v0))) (call v0))"};
        for (String main : deep) {
            MessageMachine m = family("method 1 0 (send 0 self)", "method 0 1 (call v0)", "main " + main);
            check.due(main, m.run(), DEEP);
            check.due(main, m.deepest(), 20);
        }
        String[] tired = {"(loop 1 1)", "(loop 1 (new 0))", "(loop 1 (block -1 1))", "(loop 1 (call (block -1 1)))", "(loop 1 (send 0 v0))",
            "(loop 1 (then (new 0) (new 0) (send 0 v0)))", "(loop 1 (loop 1 1))"};
        for (String term : tired) {
            MessageMachine m = family("method 0 0 1", "main (then (set 0 (new 0)) " + term + ")");
            check.due(term, m.run(), TIRED);
            check.due(term, m.turns(), 200);
        }
    }

    private static void cutOff() {
        check.said("An activation that is cut off because another one was returned to or from has ended, too: a later return to it is STUCK.");
        // 3 keeps in field 0 a block that returns from it, and calls what is in field 1.
        String keeps = "method 0 3 (then (setf 0 (block -1 (return 4))) (call f1) (print 9))";
        // 0 keeps in field 1 a block that returns from it, and sends 3.
        String returns = "method 0 0 (then (setf 1 (block -1 (return 5))) (send 3 self) (print 9))";
        String late = "method 0 1 (then (call f0) (print 9))";
        MessageMachine m = family(keeps, returns, late, "main (then (set 0 (new 0)) (print (send 0 v0)) (send 1 v0 0) (print 9))");
        check.due("one above: run", m.run(), STUCK);
        check.due("one above: printed", m.printed(), 1);
        check.due("one above: output", m.output(0), 5);
        check.due("one above: turns", m.turns(), 8);
        // 4 stands between 0 and 3.
        m = family(keeps, "method 0 0 (then (setf 1 (block -1 (return 5))) (send 4 self 0) (print 9))", "method 0 4 (then (send 3 self) (print 9))",
            late, "main (then (set 0 (new 0)) (print (send 0 v0)) (send 1 v0 0) (print 9))");
        check.due("two above: run", m.run(), STUCK);
        check.due("two above: printed", m.printed(), 1);
        check.due("two above: turns", m.turns(), 9);
        // The one between is the one that is returned to later.
        m = family("method 0 3 (then (call f1) (print 9))", "method 0 0 (then (setf 1 (block -1 (return 5))) (send 4 self 0) (print 9))",
            "method 0 4 (then (setf 0 (block -1 (return 4))) (send 3 self) (print 9))",
            late, "main (then (set 0 (new 0)) (print (send 0 v0)) (send 1 v0 0) (print 9))");
        check.due("between: run", m.run(), STUCK);
        check.due("between: printed", m.printed(), 1);
        check.due("between: turns", m.turns(), 9);
        blocksBetween(late);
        lowerOnesStay(keeps);
        sameMethod();
    }

    private static void blocksBetween(String late) {
        MessageMachine m = family("method 0 3 (then (setf 0 (block -1 (return 4))) (call (block -1 (call f1))) (print 9))",
            "method 0 0 (then (setf 1 (block -1 (return 5))) (call (block -1 (send 3 self))) (print 9))",
            late, "main (then (set 0 (new 0)) (print (send 0 v0)) (send 1 v0 0) (print 9))");
        check.due("blocks between: run", m.run(), STUCK);
        check.due("blocks between: printed", m.printed(), 1);
        check.due("blocks between: deepest", m.deepest(), 5);
        new Program(m).main("(then (set 0 (new 0)) (send 0 v0) (send 1 v0 0))");
        check.due("blocks between, not printed: run", m.run(), STUCK);
    }

    private static void lowerOnesStay(String keeps) {
        // 4 is below the one that is returned from, so that it can be returned to afterwards.
        MessageMachine m = family(keeps, "method 0 0 (then (setf 1 (block -1 (return 5))) (send 3 self) (print 9))",
            "method 0 4 (then (set 1 (block -1 (return 7))) (print (send 0 self)) (call v1) (print 9))",
            "main (print (send 4 (new 0) 0))");
        check.due("below: run", m.run(), DONE);
        check.due("below: printed", m.printed(), 2);
        check.due("below: output(0)", m.output(0), 5);
        check.due("below: output(1)", m.output(1), 7);
    }

    private static void sameMethod() {
        // 2 goes down by itself; the innermost calls the block of the outermost; the last but one has kept its own in field 0.
        String down = "method 0 2 (then (set 2 (block -1 (return v0))) (choose (= v0 1) (setf 0 v2) 0) (choose v0"
            + " (+ 10 (send 2 self (- v0 1) (choose (= v1 nil) v2 v1))) (call v1)))";
        MessageMachine m = family(down, "method 0 0 (call f0)", "main (then (set 0 (new 0)) (print (send 2 v0 3 nil)) (send 0 v0) (print 9))");
        check.due("one method: run", m.run(), STUCK);
        check.due("one method: printed", m.printed(), 1);
        check.due("one method: output", m.output(0), 3);
        // The same method is under way anew, as deep as the one that was cut off.
        new Program(m).method(0, 0, "(send 1 self f0)").method(0, 1, "(then (call v0) (print 9))");
        check.due("one method, called as deep: run", m.run(), STUCK);
        check.due("one method, called as deep: printed", m.printed(), 1);
    }

    private static void tidyOverLongRuns() {
        check.said("Housekeeping that can't be seen by any other call: room is made at least after every n new things, n from 1 to 50.");
        String[] lines = {"class -1 4", "class -1 0",
            "method 0 1 (then (setf 0 v0) (setf 1 (new 1)) (setf 2 (block -1 v0)) (new 1) self)",
            "method 0 3 (call f2)",
            "main (then (set 0 24) (loop v0 (then (set 1 (send 1 (new 0) v1)) (new 1) (block -1 1) (set 0 (- v0 1)))) (set 2 v1)"
            + " (loop (is 0 v2) (then (print 1) (set 2 (send 3 v2)) (set 0 (+ v0 1)))) v1)"};
        MessageMachine plain = Program.of(lines);
        check.due("a long run", plain.run(), TIRED);
        String due = Looks.run(plain);
        for (int n = 0; n <= 51; n++) {
            MessageMachine m = Program.of(lines);
            m.tidy(n);
            check.same("after tidy(" + n + ")", Looks.run(m), due);
            m = Program.of(lines);
            m.run();
            m.tidy(n);
            m.tidy(51 - n);
            check.same("after run and tidy(" + n + ")", Looks.run(m), due);
        }
        lines[4] = "main (then (set 0 18) (loop v0 (then (set 1 (send 1 (new 0) v1)) (new 1) (block -1 1) (set 0 (- v0 1)))) (set 2 v1)"
            + " (loop (is 0 v2) (then (set 2 (send 3 v2)) (set 0 (+ v0 1)))) (print v0) v1)";
        for (int n = 0; n <= 51; n++) {
            MessageMachine m = Program.of(lines);
            m.tidy(n);
            check.due("tidy(" + n + "): run", m.run(), DONE);
            check.due("tidy(" + n + "): output", m.output(0), 18);
            check.due("tidy(" + n + "): turns", m.turns(), 18 * 8 + 18 * 3);
            check.due("tidy(" + n + "): reach", m.reach(), 36);
            check.due("tidy(" + n + "): made", m.made(1), 54);
        }
    }

    /** Things that only a value that waits, a self, a variable of a method that has ended or a field leads to. */
    private static void tidyWhileValuesWait() {
        String[] methods = {"method 0 2 (+ (= v0 nil) (+ (is 0 self) (is 1 v1)))", "method 0 1 (then (setf 0 v0) (setf 1 (block -1 (= f0 v0))) self)",
            "method 0 0 (call f1)", "method 0 3 (then (set 3 (new 2)) (block 4 (+ (is 2 v3) (is 1 v4))))",
            "method 2 1 (then (loop v0 (then (new 0) (set 0 (- v0 1)))) v0)"};
        String waste = "(send 1 (new 2) 25)";
        String[] mains = {
            "(send 2 (new 0) (then " + waste + " nil) (then " + waste + " (new 1)))",
            "(then (set 0 (send 1 (new 0) (new 1))) " + waste + " (+ (send 0 v0) (is 0 v0)))",
            "(call (then (set 1 (send 3 (new 0))) " + waste + " v1) (then " + waste + " (new 1)))",
            "(+ (is 1 (send 1 (new 1) (then " + waste + " (new 2)))) (is 2 (then " + waste + " (new 2))))",
            "(= (set 0 (new 1)) (then " + waste + " v0))",
            "(= (new 1) (then " + waste + " (new 1)))",
            "(= (block -1 1) (then " + waste + " (block -1 1)))",
        };
        int[] due = {3, 2, 2, 2, 1, 0, 0};
        int[] made = {51, 26, 51, 50, 25, 25, 25};
        for (int n = 0; n <= 50; n++) {
            Program.tidied = n;
            for (int i = 0; i < mains.length; i++) {
                MessageMachine m = family(methods);
                new Program(m).main(mains[i]);
                check.due("tidy(" + n + "), " + mains[i] + ": run", m.run(), DONE);
                check.due("tidy(" + n + "), " + mains[i] + ": value", m.value(), due[i]);
                check.due("tidy(" + n + "), " + mains[i] + ": made", m.made(0), made[i]);
            }
        }
        Program.tidied = 0;
    }

    private static void longestRun() {
        check.said("A turn: if 200 turns were taken before, the run ends TIRED, else it is counted.");
        String deep = "(set 1 ".repeat(80) + "(+ v1 1)" + ")".repeat(80);
        MessageMachine m = Program.ofMain("(then (set 1 0) (loop (< v1 (* 2 99)) " + deep + ") (print v1))");
        check.due("198 times over 80 terms: run", m.run(), DONE);
        check.due("198 times over 80 terms: turns", m.turns(), 198);
        check.due("198 times over 80 terms: value", m.value(), 198);
        m = Program.ofMain("(then (set 1 0) (loop 1 " + deep + ") (print v1))");
        check.due("over and over: run", m.run(), TIRED);
        m = Program.of("class -1 0", "method 0 1 (choose v0 " + "(is 0 ".repeat(80) + "(send 1 self (- v0 1))" + ")".repeat(80) + " 0)",
            "main (then (set 0 (new 0)) (loop 1 (send 1 v0 19)))");
        check.due("over and over, 20 deep: run", m.run(), TIRED);
        check.due("over and over, 20 deep: deepest", m.deepest(), 20);
    }

    private static final int[] EXTREMES = {LOWEST, LOWEST + 1, -100, -99, -7, -2, -1, 0, 1, 2, 3, 4, 5, 6, 7, 8, 9, 10, 20, 50, 51, 99, 100,
        GREATEST - 1, GREATEST};

    private static void noCallThrows() {
        check.said("No call ever throws. A refused call answers the code named and changes nothing.");
        List<Supplier<MessageMachine>> makers = List.of(MessageMachine::new, () -> Machines.rich(0), () -> Machines.rich(3),
            () -> Machines.rich(8), () -> Machines.full(0), () -> Machines.full(8), () -> Machines.sixClasses(2), () -> Machines.withClasses(6));
        for (Supplier<MessageMachine> maker : makers) {
            for (int a : EXTREMES) {
                MessageMachine m = maker.get();
                for (int b : EXTREMES) {
                    inRange("newClass(" + a + ", " + b + ")", maker.get().newClass(a, b), 5);
                    inRange("leaf(" + a + ", " + b + ")", maker.get().leaf(a, b), 8);
                    inRange("one(" + a + ", " + b + ")", maker.get().one(a, b), 8);
                    inRange("two(" + a + ", " + b + ")", maker.get().two(a, b), 7);
                    inRange("three(" + a + ", " + b + ")", maker.get().three(a, b), 6);
                    inRange("method(" + a + ", " + b + ")", maker.get().method(a, b), 7);
                    // All on one object, so that wrong calls follow each other.
                    m.leaf(a, b);
                    m.one(a, b);
                    m.two(a, b);
                    m.three(a, b);
                    m.method(a, b);
                    m.output(b);
                    m.made(b);
                    m.tidy(b);
                }
                m.main();
                int how = m.run();
                check.holds("run ends in one of five ways: " + how, how >= DONE && how <= FULL_UP);
            }
        }
    }

    private static void inRange(String what, int answer, int greatest) {
        check.holds(what + " answers a code or a number: " + answer, answer >= MessageMachine.TOO_FEW && answer <= greatest);
    }

    private static void manyCalls() {
        check.said("An object is used for at most 512 calls after it has been made;");
        MessageMachine m = new MessageMachine();
        int calls = 0;
        while (calls + 12 <= 512) {
            check.due("newClass", m.newClass(-1, 1), 0);
            check.due("newClass", m.newClass(0, 1), 1);
            check.due("leaf", m.leaf(3, 0), 1);
            check.due("method", m.method(0, 1), 0);
            check.due("leaf", m.leaf(5, 1), 1);
            check.due("leaf", m.leaf(5, 0), 2);
            check.due("two", m.two(8, 1), 1);
            check.due("main", m.main(), 0);
            check.due("kind", m.kind(), 4);
            check.due("made", m.made(1), 1);
            check.due("turns", m.turns(), 3);
            m.forget();
            calls += 12;
        }
        m = Machines.withClasses(1);
        new Program(m).method(0, 0, "(then (print 3) (send 0 self))").main("(send 0 (new 0))");
        for (int i = 0; i < 490; i++) {
            check.due("run " + i, m.run(), DEEP);
        }
        check.due("printed after many runs", m.printed(), 20);
    }
}

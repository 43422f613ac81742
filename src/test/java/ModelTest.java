import java.util.ArrayList;
import java.util.List;
import java.util.Random;

/** Runs of calls, always the same ones, on the program and on the model of it; each answer must be the same. */
public final class ModelTest {
    private static final int PROGRAMS = 60000;
    private static final int WILD_RUNS = 4000;

    private final Random random;
    private final Check check;
    private final MessageMachine machine = new MessageMachine();
    private final Model model = new Model();
    private final List<String> calls = new ArrayList<>();
    private boolean same = true;
    private int classes = 0;

    private ModelTest(long seed, Check check) {
        random = new Random(seed);
        this.check = check;
    }

    public static void main(String[] args) {
        Check check = new Check();
        int[] endings = new int[5];
        int deepDone = 0;
        for (int i = 0; i < PROGRAMS; i++) {
            ModelTest test = new ModelTest(i, check);
            if (i % 2 == 0) {
                test.ask(9, 1 + i / 2 % 50);
            }
            if (i % 3 == 0) {
                test.looseProgram();
            } else {
                test.typedProgram();
            }
            endings[test.machine.run()]++;
            if (test.machine.run() == MessageMachine.DONE && test.machine.deepest() > 3) {
                deepDone++;
            }
        }
        for (int i = 0; i < WILD_RUNS; i++) {
            new ModelTest(-1 - i, check).wild();
        }
        for (int how = 0; how < 5; how++) {
            check.holds("enough runs end with " + how + ": " + endings[how], endings[how] >= 100);
        }
        check.holds("enough runs that are DONE go deep: " + deepDone, deepDone >= 100);
        check.end();
    }

    private void same(String call, int got, int want) {
        calls.add(call);
        if (same && got != want) {
            same = false;
            check.due(calls + ": the last", got, want);
        }
    }

    private void newClass(int parent, int own) {
        int answer = model.newClass(parent, own);
        same("newClass(" + parent + ", " + own + ")", machine.newClass(parent, own), answer);
        classes = Math.max(classes, answer + 1);
    }

    private void leaf(int kind, int k) {
        same("leaf(" + kind + ", " + k + ")", machine.leaf(kind, k), model.leaf(kind, k));
    }

    private void one(int kind, int k) {
        same("one(" + kind + ", " + k + ")", machine.one(kind, k), model.one(kind, k));
    }

    private void two(int kind, int k) {
        same("two(" + kind + ", " + k + ")", machine.two(kind, k), model.two(kind, k));
    }

    private void three(int kind, int k) {
        same("three(" + kind + ", " + k + ")", machine.three(kind, k), model.three(kind, k));
    }

    private void method(int c, int s) {
        same("method(" + c + ", " + s + ")", machine.method(c, s), model.method(c, s));
    }

    private void mainTerm() {
        same("main()", machine.main(), model.main());
    }

    private void ask(int which, int k) {
        switch (which) {
            case 0: same("run()", machine.run(), model.run()); break;
            case 1: same("kind()", machine.kind(), model.kind()); break;
            case 2: same("value()", machine.value(), model.value()); break;
            case 3: same("printed()", machine.printed(), model.printed()); break;
            case 4: same("output(" + k + ")", machine.output(k), model.output(k)); break;
            case 5: same("turns()", machine.turns(), model.turns()); break;
            case 6: same("deepest()", machine.deepest(), model.deepest()); break;
            case 7: same("made(" + k + ")", machine.made(k), model.made(k)); break;
            case 8: same("reach()", machine.reach(), model.reach()); break;
            case 9: same("tidy(" + k + ")", machine.tidy(k), model.tidy(k)); break;
            default: same("depth()", machine.depth(), model.depth()); break;
        }
    }

    /** A program of any terms: some classes, some methods, a main term; then every question. Most get STUCK. */
    private void looseProgram() {
        int wanted = 1 + random.nextInt(4);
        for (int c = 0; c < wanted; c++) {
            newClass(random.nextInt(3) == 0 ? -1 : random.nextInt(c + 1) - 1, random.nextInt(3));
        }
        int methods = 1 + random.nextInt(6);
        for (int i = 0; i < methods; i++) {
            term(3 + random.nextInt(14), 6);
            method(random.nextInt(classes), random.nextInt(6));
        }
        int mains = 1 + random.nextInt(2);
        for (int i = 0; i < mains; i++) {
            term(6 + random.nextInt(30), 7);
            mainTerm();
            questions();
        }
    }

    // A typed program keeps ints in variables 0 and 2, objects in 1 and 3, blocks without v in 4 and with v in 5,
    // and each message has a type of value; so it runs long, unless one of the rare terms that don't fit is met.
    private static final int INT = 0;
    private static final int OBJECT = 1;
    private static final int BLOCK = 2;
    private static final int BLOCK_WITH = 3;
    private static final int[] TYPE_OF_VARIABLE = {INT, OBJECT, INT, OBJECT, BLOCK, BLOCK_WITH};
    private static final int[] TYPE_OF_MESSAGE = {INT, INT, OBJECT, BLOCK, INT, INT};
    private boolean inMain;
    private boolean[] known;

    private void typedProgram() {
        int wanted = 1 + random.nextInt(3);
        newClass(-1, 1 + random.nextInt(2));
        for (int c = 1; c < wanted; c++) {
            newClass(random.nextInt(c), random.nextInt(2));
        }
        for (int s = 0; s < 6; s++) {
            if (random.nextInt(5) != 0) {
                typedMethod(0, s, 2 + random.nextInt(9));
            }
        }
        for (int c = 1; c < wanted; c++) {
            typedMethod(c, random.nextInt(6), 2 + random.nextInt(8));
        }
        inMain = true;
        known = new boolean[6];
        leaf(1, 0);
        for (int v = 0; v < 6; v++) {
            if (random.nextInt(3) != 0) {
                typed(TYPE_OF_VARIABLE[v], 1 + random.nextInt(5), 6);
                one(0, v);
                two(5, 0);
                known[v] = true;
            }
        }
        typed(random.nextInt(4), 8 + random.nextInt(25), 6);
        two(5, 0);
        mainTerm();
        questions();
    }

    private void typedMethod(int c, int s, int size) {
        inMain = false;
        known = new boolean[6];
        known[0] = s % 3 > 0;
        known[1] = s % 3 > 1;
        boolean bounded = s % 3 > 0 && random.nextBoolean();
        if (bounded) {
            leaf(0, 0);
            leaf(3, 0);
            two(3, 0);
        }
        typed(TYPE_OF_MESSAGE[s], size, bounded ? 6 : 7);
        if (bounded) {
            typed(TYPE_OF_MESSAGE[s], 2, 5);
            three(0, 0);
        }
        method(c, s);
    }

    private void typed(int type, int size, int room) {
        if (random.nextInt(150) == 0) {
            term(1, room);
        } else if (size < 2 || room < 3) {
            typedLeaf(type);
        } else {
            switch (random.nextInt(8)) {
                case 0: typedThen(type, size, room); break;
                case 1: typedChoose(type, size, room); break;
                case 2: typedSet(type, size, room); break;
                case 3:
                case 4: typedMessage(type, size, room); break;
                default: typedOwn(type, size, room); break;
            }
        }
    }

    private void typedLeaf(int type) {
        int v = random.nextInt(6);
        if (TYPE_OF_VARIABLE[v] == type && known[v]) {
            leaf(3, v);
        } else if (type == INT) {
            leaf(0, random.nextInt(7) - 1);
        } else if (type == OBJECT) {
            leaf(inMain || random.nextBoolean() ? 5 : 2, random.nextInt(classes));
        } else {
            leaf(0, random.nextInt(5));
            one(3, type == BLOCK ? -1 : 2 * random.nextInt(2));
        }
    }

    private void typedThen(int type, int size, int room) {
        int first = 1 + random.nextInt(size - 1);
        if (first > 6 && random.nextBoolean()) {
            typedLoop(first, room);
        } else {
            typed(random.nextInt(4), first, room);
        }
        typed(type, size - 1 - first, room - 1);
        two(5, 0);
    }

    /** Variable 2 counts up to some number. */
    private void typedLoop(int size, int room) {
        leaf(0, random.nextInt(3));
        one(0, 2);
        known[2] = true;
        leaf(3, 2);
        leaf(0, 1 + random.nextInt(40));
        two(3, 0);
        leaf(3, 2);
        leaf(0, 1);
        two(0, 0);
        one(0, 2);
        if (random.nextInt(3) == 0) {
            one(6, 0);
        }
        typed(random.nextInt(4), size - 6, room - 3);
        two(5, 0);
        two(6, 0);
        two(5, 0);
    }

    private void typedChoose(int type, int size, int room) {
        typed(INT, size / 3, room);
        typed(type, size / 3, room - 1);
        typed(type, size / 3, room - 2);
        three(0, 0);
    }

    private void typedSet(int type, int size, int room) {
        int v = random.nextInt(6);
        while (TYPE_OF_VARIABLE[v] != type) {
            v = random.nextInt(6);
        }
        typed(type, size - 1, room);
        one(0, v);
        known[v] = true;
    }

    private void typedMessage(int type, int size, int room) {
        int s = random.nextInt(6);
        if (type == BLOCK_WITH) {
            typedOwn(type, size, room);
            return;
        }
        while (TYPE_OF_MESSAGE[s] != type) {
            s = random.nextInt(6);
        }
        boolean send = inMain || random.nextInt(3) != 0;
        if (send) {
            typed(OBJECT, size / 3, room);
        }
        if (s % 3 > 0) {
            typedArgument(size / 3, room - 1);
        }
        if (s % 3 > 1) {
            typed(OBJECT, size / 3, room - 2);
        }
        switch (s % 3 + (send ? 1 : 0)) {
            case 0: leaf(6, s); break;
            case 1: one(send ? 7 : 8, s); break;
            case 2: two(send ? 8 : 9, s); break;
            default: three(1, s); break;
        }
    }

    private void typedArgument(int size, int room) {
        if (known[0] && !inMain && random.nextInt(3) != 0) {
            leaf(3, 0);
            leaf(0, 1);
            two(1, 0);
        } else {
            typed(INT, size, room);
        }
    }

    private void typedOwn(int type, int size, int room) {
        if (type == INT) {
            typedInt(size, room);
        } else if (type == OBJECT) {
            if (!inMain && random.nextBoolean()) {
                typed(OBJECT, size - 1, room);
                one(1, 0);
            } else {
                typedLeaf(OBJECT);
            }
        } else {
            typed(INT, size - 1, room);
            if (random.nextInt(3) == 0) {
                one(5, 0);
            }
            one(3, type == BLOCK ? -1 : 2 * random.nextInt(2));
        }
    }

    private void typedInt(int size, int room) {
        int half = size / 2;
        switch (random.nextInt(9)) {
            case 0:
                typed(INT, size - 1, room);
                one(6, 0);
                break;
            case 1:
            case 2:
                typed(BLOCK, size - 1, room);
                one(4, 0);
                break;
            case 3:
            case 4:
                typed(BLOCK_WITH, half, room);
                typed(INT, half, room - 1);
                two(7, 0);
                break;
            case 5:
                typed(random.nextInt(4), size - 1, room);
                one(2, random.nextInt(classes));
                break;
            case 6:
                typed(random.nextInt(4), half, room);
                typed(random.nextInt(4), half, room - 1);
                two(4, 0);
                break;
            default:
                typed(INT, half, room);
                typed(INT, half, room - 1);
                two(random.nextInt(4), 0);
                break;
        }
        if (!inMain && random.nextInt(12) == 0) {
            one(5, 0);
        }
    }

    private void questions() {
        int first = random.nextInt(9);
        for (int i = 0; i < 9; i++) {
            int which = (first + i) % 9;
            if (which == 4) {
                ask(4, 0);
                ask(4, random.nextInt(22) - 1);
            } else {
                ask(which, random.nextInt(classes));
            }
        }
    }

    /** Pushes one term of about that many terms, with room for so many on the stack. */
    private void term(int size, int room) {
        int choice = random.nextInt(size < 2 || room < 1 ? 8 : size < 3 || room < 2 ? 24 : 60);
        if (choice < 8) {
            leafTerm(choice);
        } else if (choice < 24) {
            term(size - 1, room);
            oneTerm(choice - 8);
        } else if (choice < 56 || size < 4 || room < 3) {
            int left = 1 + random.nextInt(size - 2);
            term(left, room);
            term(size - 1 - left, room - 1);
            twoTerm(choice - 24);
        } else {
            int third = (size - 1) / 3;
            term(third, room);
            term(third, room - 1);
            term(size - 1 - 2 * third, room - 2);
            three(random.nextInt(2), random.nextBoolean() ? 2 : 5);
        }
    }

    private void leafTerm(int choice) {
        switch (choice) {
            case 0: leaf(0, random.nextInt(199) - 99); break;
            case 1: leaf(0, random.nextInt(5)); break;
            case 2: leaf(random.nextInt(8) == 0 ? 1 : 2, 0); break;
            case 3:
            case 4: leaf(3, random.nextInt(3)); break;
            case 5: leaf(random.nextInt(3) == 0 ? 4 : 3, random.nextInt(2)); break;
            case 6: leaf(5, random.nextInt(classes)); break;
            default: leaf(random.nextBoolean() ? 6 : 2, 3 * random.nextInt(2)); break;
        }
    }

    private void oneTerm(int choice) {
        switch (choice) {
            case 0:
            case 1:
            case 2: one(0, random.nextInt(3)); break;
            case 3: one(1, random.nextInt(2)); break;
            case 4: one(2, random.nextInt(classes)); break;
            case 5:
            case 6: one(3, random.nextInt(4) - 1); break;
            case 7:
                one(3, -1);
                one(4, 0);
                break;
            case 8:
                one(3, -1);
                one(0, random.nextInt(3));
                break;
            case 9: one(4, 0); break;
            case 10: one(5, 0); break;
            case 11: one(6, 0); break;
            case 12: one(8, random.nextBoolean() ? 1 : 4); break;
            default: one(7, 3 * random.nextInt(2)); break;
        }
    }

    private void twoTerm(int choice) {
        switch (choice) {
            case 0:
            case 1: two(0, 0); break;
            case 2: two(1, 0); break;
            case 3: two(2, 0); break;
            case 4:
            case 5: two(3, 0); break;
            case 6:
            case 7: two(4, 0); break;
            case 8:
            case 9: two(6, 0); break;
            case 10:
            case 11: two(7, 0); break;
            case 12: two(9, random.nextBoolean() ? 2 : 5); break;
            case 13:
            case 14:
            case 15:
            case 16: two(8, random.nextBoolean() ? 1 : 4); break;
            default: two(5, 0); break;
        }
    }

    /** Any calls with any arguments, many of them wrong. */
    private void wild() {
        for (int i = 0; i < 512 && same; i++) {
            int k = wildNumber();
            int kind = random.nextInt(20) == 0 ? wildNumber() : random.nextInt(10);
            int which = random.nextInt(40);
            if (which < 3) {
                newClass(k, wildNumber());
            } else if (which < 13) {
                leaf(kind, k);
            } else if (which < 19) {
                one(kind, k);
            } else if (which < 22) {
                two(kind, k);
            } else if (which < 23) {
                three(random.nextInt(3), k);
            } else if (which < 25) {
                same("drop()", machine.drop(), model.drop());
            } else if (which < 29) {
                method(wildNumber(), k);
            } else if (which < 32) {
                mainTerm();
            } else if (which < 39 || random.nextInt(20) != 0) {
                ask(random.nextInt(11), k);
            } else {
                machine.forget();
                model.forget();
                calls.add("forget()");
            }
        }
        check.holds("the answers are the same", same);
    }

    private int wildNumber() {
        switch (random.nextInt(12)) {
            case 0: return random.nextInt();
            case 1: return random.nextInt(300) - 150;
            case 2: return random.nextBoolean() ? Integer.MIN_VALUE : Integer.MAX_VALUE;
            default: return random.nextInt(8) - 1;
        }
    }
}

/**
 * Makes terms from a text, by the calls that push. A term is a word or a list:
 *
 *   7  nil  self  v0  f0                 number, nil, self, variable, field
 *   (new c)  (set v X)  (setf k X)  (is c X)
 *   (block v X), v -1 for none           (call B)  (call B A)
 *   (return X)  (print X)  (send s R ..)  (super s ..)
 *   (+ X Y) (- X Y) (* X Y) (< X Y) (= X Y) (then X Y) (loop C X)
 *   (choose C X Y)
 *
 * (then X Y Z ..) is (then (then X Y) Z) .., which keeps the stack low.
 */
final class Program {
    /** What tidy is called with on each machine that is made here; 0 is that it is not called. */
    static int tidied = 0;

    private final MessageMachine machine;
    private String[] words;
    private int next;

    Program(MessageMachine machine) {
        this.machine = machine;
    }

    /** Makes a machine with this main term and no class. */
    static MessageMachine ofMain(String text) {
        return of("main " + text);
    }

    /** Makes a machine by lines: class PARENT OWN, method C S TERM, main TERM, push TERM. */
    static MessageMachine of(String... lines) {
        MessageMachine m = new MessageMachine();
        if (tidied != 0) {
            m.tidy(tidied);
        }
        Program program = new Program(m);
        for (String line : lines) {
            program.line(line);
        }
        return m;
    }

    private void line(String line) {
        String[] parts = line.split(" ", 4);
        switch (parts[0]) {
            case "class": newClass(Integer.parseInt(parts[1]), Integer.parseInt(parts[2])); break;
            case "method": method(Integer.parseInt(parts[1]), Integer.parseInt(parts[2]), parts[3]); break;
            case "main": main(line.substring(5)); break;
            case "push": push(line.substring(5)); break;
            default: throw new IllegalStateException("no such line: " + line);
        }
    }

    Program main(String text) {
        push(text);
        require(machine.main());
        return this;
    }

    Program method(int c, int s, String text) {
        push(text);
        require(machine.method(c, s));
        return this;
    }

    Program newClass(int parent, int own) {
        require(machine.newClass(parent, own));
        return this;
    }

    Program push(String text) {
        words = text.replace("(", " ( ").replace(")", " ) ").trim().split("\\s+");
        next = 0;
        term();
        if (next != words.length) {
            throw new IllegalStateException("too many words: " + text);
        }
        return this;
    }

    private void term() {
        String word = words[next++];
        if (word.equals("(")) {
            list(words[next++]);
            if (!words[next++].equals(")")) {
                throw new IllegalStateException("no ) before word " + next);
            }
        } else if (word.equals("nil")) {
            require(machine.leaf(1, 0));
        } else if (word.equals("self")) {
            require(machine.leaf(2, 0));
        } else if (word.startsWith("v")) {
            require(machine.leaf(3, Integer.parseInt(word.substring(1))));
        } else if (word.startsWith("f")) {
            require(machine.leaf(4, Integer.parseInt(word.substring(1))));
        } else {
            require(machine.leaf(0, Integer.parseInt(word)));
        }
    }

    private void list(String head) {
        switch (head) {
            case "new": require(machine.leaf(5, number())); break;
            case "set": one(0, number()); break;
            case "setf": one(1, number()); break;
            case "is": one(2, number()); break;
            case "block": one(3, number()); break;
            case "call": call(); break;
            case "return": one(5, 0); break;
            case "print": one(6, 0); break;
            case "send": message(true, number()); break;
            case "super": message(false, number()); break;
            case "+": two(0); break;
            case "-": two(1); break;
            case "*": two(2); break;
            case "<": two(3); break;
            case "=": two(4); break;
            case "then": then(); break;
            case "loop": two(6); break;
            case "choose": term(); term(); term(); require(machine.three(0, 0)); break;
            default: throw new IllegalStateException("no such term: " + head);
        }
    }

    private int number() {
        return Integer.parseInt(words[next++]);
    }

    private void one(int kind, int k) {
        term();
        require(machine.one(kind, k));
    }

    private void two(int kind) {
        term();
        term();
        require(machine.two(kind, 0));
    }

    private void then() {
        term();
        while (!words[next].equals(")")) {
            term();
            require(machine.two(5, 0));
        }
    }

    private void call() {
        term();
        if (words[next].equals(")")) {
            require(machine.one(4, 0));
        } else {
            term();
            require(machine.two(7, 0));
        }
    }

    private void message(boolean send, int s) {
        int parts = s % 3 + (send ? 1 : 0);
        for (int i = 0; i < parts; i++) {
            term();
        }
        switch (parts) {
            case 0: require(machine.leaf(6, s)); break;
            case 1: require(machine.one(send ? 7 : 8, s)); break;
            case 2: require(machine.two(send ? 8 : 9, s)); break;
            default: require(machine.three(1, s)); break;
        }
    }

    private static void require(int answer) {
        if (answer < 0) {
            throw new IllegalStateException("a call was refused with " + answer);
        }
    }
}

/** Objects in the states that the tests of boundary cases begin with. */
final class Machines {
    // The terms of the methods and of the main term of rich.
    private static final int RICH_TERMS = 27;

    private Machines() {
    }

    /** So many classes without parents and fields, and nothing else. */
    static MessageMachine withClasses(int count) {
        MessageMachine m = new MessageMachine();
        for (int c = 0; c < count; c++) {
            m.newClass(-1, 0);
        }
        return m;
    }

    /**
     * Four classes with 2, 3, 3 and 4 fields, methods, a main term whose run
     * prints, calls and makes things, and the numbers 41, 42, .. on the stack.
     */
    static MessageMachine rich(int stacked) {
        MessageMachine m = Program.of(
            "class -1 2", "class 0 1", "class 1 0", "class -1 4",
            "method 0 0 (print 7)",
            "method 0 1 (then (setf 0 v0) self)",
            "method 0 2 (- v0 v1)",
            "method 1 0 (+ 1 (super 0))",
            "method 1 4 (block -1 (return v0))",
            "method 3 5 (is 3 v1)",
            "main (then (print 5) (print (send 0 (new 2))) (send 1 (new 1) (new 3)))");
        pushNumbers(m, stacked);
        return m;
    }

    private static void pushNumbers(MessageMachine m, int count) {
        for (int i = 1; i <= count; i++) {
            m.leaf(0, 40 + i);
        }
    }

    /** The same with so many terms kept. */
    static MessageMachine keeping(int terms, int stacked) {
        MessageMachine m = rich(0);
        for (int kept = RICH_TERMS; kept < terms - stacked; kept++) {
            m.leaf(1, 0);
            m.drop();
        }
        pushNumbers(m, stacked);
        return m;
    }

    /** The same with 100 terms kept, so that no more can be made. */
    static MessageMachine full(int stacked) {
        return keeping(100, stacked);
    }

    /** The same with two classes more, so that no more can be made. */
    static MessageMachine sixClasses(int stacked) {
        MessageMachine m = rich(stacked);
        m.newClass(-1, 0);
        m.newClass(2, 1);
        return m;
    }
}

/** The numbers by which a job fails, in their order, and what is left as it was. */
final class FailuresTest {
    private static final int FIRST = 288;
    private static final Due DUE = new Due();

    public static void main(String[] args) {
        unknownFunctions();
        limit();
        controlOutside();
        operandOutside();
        tooManyBlocks();
        tape();
        numbers();
        paper();
        orderOfFailures();
        DUE.end();
    }

    private static OneLevelStore begun(int limit, int blocks, long... program) {
        OneLevelStore x = new OneLevelStore(4);
        Code.load(x, 0, 0, program);
        x.start(0, 0, limit, blocks);
        return x;
    }

    private static void failed(String what, OneLevelStore x, int number, int control, int done) {
        DUE.is(what + ": state", x.job(0, 0), 4);
        DUE.is(what + ": number", x.job(0, 1), number);
        DUE.is(what + ": CONTROL", x.register(0, 127), control);
        DUE.is(what + ": instructions", x.job(0, 2), done);
        DUE.is(what + ": BLOCKS", x.job(0, 4), 0);
        DUE.is(what + ": waits", x.job(0, 3), -1);
        DUE.is(what + ": all instructions", x.clock(1), done);
    }

    private static void unknownFunctions() {
        int[] unknown = {0, 0100, 0103, 0105, 0110, 0112, 0115, 0117, 0123, 0125, 0151, 0153, 0171, 0173, 0177,
            0201, 0202, 0204, 0213, 0220, 0223, 0230, 0233, 0240, 0300, 0323, 0326, 0345, 0347, 0355, 0357,
            0361, 0363, 0366, 0373, 0375, 0377, 0400, 01047, 01051, 01065, 01067, 01103, 01105, 01116, 01120,
            01122, 01277, 01301, 01777};
        for (int f : unknown) {
            OneLevelStore x = begun(10, 4, Code.of(f, 1, 1, -1));
            x.run(FIRST + 1);
            failed("function " + Integer.toOctalString(f), x, 1, 0, 0);
            DUE.is("the tick of it", x.job(0, 8), FIRST);
        }
    }

    private static void limit() {
        OneLevelStore x = begun(3, 4, Code.of(0124, 5, 0, 1), Code.jump(0));
        x.run(FIRST + 3);
        DUE.is("all that it may", x.job(0, 2), 3);
        DUE.is("still ready", x.job(0, 0), 1);
        x.run(1);
        failed("limit", x, 7, 1, 3);
        DUE.is("B5", x.register(0, 5), 2);
        x = begun(2, 4, Code.of(0124, 5, 0, 1), Code.END);
        x.run(FIRST + 2);
        DUE.is("the last one that it may ends it", x.job(0, 0), 3);
    }

    private static void controlOutside() {
        OneLevelStore x = begun(10, 4, Code.jump(1048576));
        x.run(FIRST + 2);
        failed("above", x, 2, 1048576, 1);
        x = begun(10, 4, Code.jump(-1));
        x.run(FIRST + 2);
        failed("below", x, 2, -1, 1);
        x = new OneLevelStore(4);
        Code.load(x, 0, 1048575, Code.of(0121, 5, 0, 8));
        x.start(0, 1048575, 10, 1);
        x.run(FIRST + 1);
        DUE.is("the last address", x.register(0, 5), 8);
        x.run(1);
        failed("behind the last address", x, 2, 1048576, 1);
        x = new OneLevelStore(4);
        x.start(0, 0x1FFFFFF, 10, 1);
        DUE.is("lowest 24 bits", x.register(0, 127), -1);
        x.run(1);
        failed("begun outside", x, 2, -1, 0);
    }

    private static void operandOutside() {
        OneLevelStore x = begun(10, 4, Code.of(0324, 0, 0, 1048576));
        x.run(FIRST + 1);
        failed("s above", x, 2, 0, 0);
        x = begun(10, 4, Code.of(0113, 0, 0, -1));
        x.run(FIRST + 1);
        failed("s below", x, 2, 0, 0);
        x = begun(10, 4, Code.of(0364, 0, 0, -1), Code.of(01121, 5, 0, -1));
        x.run(FIRST + 2);
        DUE.is("no s, no address", x.job(0, 2), 2);
        x = begun(10, 4, Code.of(0324, 0, 0, 1048575));
        x.run(FIRST + 2);
        DUE.is("the last address is one", x.job(0, 2), 1);
    }

    private static void tooManyBlocks() {
        OneLevelStore x = begun(10, 2, Code.of(0324, 0, 0, 512), Code.of(0324, 0, 0, 1023),
            Code.of(0324, 0, 0, 1024));
        x.run(FIRST + 3);
        DUE.is("as many as it may", x.job(0, 4), 2);
        DUE.is("both done", x.job(0, 2), 2);
        x.run(1);
        failed("one more", x, 3, 2, 2);
        x = begun(10, 1, Code.jump(512));
        x.run(FIRST + 2);
        failed("for CONTROL too", x, 3, 512, 1);
    }

    private static void tape() {
        OneLevelStore x = begun(10, 2, Code.of(01050, 0, 0, 0), Code.of(01050, 0, 0, 0));
        Code.tape(x, 0, 12);
        x.run(FIRST + 2);
        failed("no tape", x, 4, 1, 1);
        DUE.is("A", x.accumulator(0), 12);
    }

    private static void numbers() {
        OneLevelStore x = begun(10, 2, Code.of(0324, 0, 0, 2), Code.of(0374, 0, 0, 3), 5, 0);
        x.run(FIRST + 2);
        failed("division by 0", x, 5, 1, 1);
        DUE.is("A", x.accumulator(0), 5);
        x = begun(10, 2, Code.of(0324, 0, 0, 2), Code.of(01300, 0, 0, 0), -1);
        x.run(FIRST + 2);
        failed("root of -1", x, 5, 1, 1);
        DUE.is("A", x.accumulator(0), -1);
    }

    private static void paper() {
        OneLevelStore x = begun(1000, 2, Code.of(0320, 0, 0, 3), Code.of(01066, 0, 0, 0), Code.jump(0), 1);
        x.run(FIRST + 599);
        DUE.is("200 words", x.job(0, 6), 200);
        DUE.is("still ready", x.job(0, 0), 1);
        DUE.is("the last", x.paper(0, 199), 200);
        DUE.is("none behind", x.paper(0, 200), 0);
        DUE.is("none before", x.paper(0, -1), 0);
        x.run(3);
        failed("paper", x, 6, 1, 601);
        DUE.is("200 still", x.job(0, 6), 200);
    }

    private static void orderOfFailures() {
        OneLevelStore x = begun(1, 2, Code.jump(-1));
        x.run(FIRST + 2);
        failed("the limit before CONTROL", x, 7, -1, 1);
        x = begun(10, 1, Code.of(0374, 0, 0, 512));
        x.run(FIRST + 1);
        failed("the block before the number", x, 3, 0, 0);
        x = begun(10, 1, Code.of(0323, 0, 0, -1));
        x.run(FIRST + 1);
        failed("the function before the address", x, 1, 0, 0);
    }
}

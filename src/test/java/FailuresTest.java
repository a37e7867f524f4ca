/** PART 1, an instruction: the numbers by which a job FAILS, the order in which they are asked, and what WAITS. */
final class FailuresTest {
    private static final int FIRST = Lone.FIRST;
    private static final String WITH_WORD =
        " 0101 0102 0104 0106 0107 0113 0114 0152 0320 0321 0322 0324 0325 0346 0356 0362 0374 ";
    private static final String WITHOUT_WORD = " 0120 0121 0122 0124 0126 0127 0172 0200 0203 0214 0215 0216 0217"
        + " 0224 0225 0226 0227 0234 0235 0236 0237 0364 0365 1066 1104 1121 1300 ";
    private static final Due DUE = new Due();

    public static void main(String[] args) {
        limit();
        limitOfOne();
        lastOneThatItMayEnds();
        limitBeforeAllElse();
        controlOutside();
        controlAtTheEdges();
        blockOfControlTooMany();
        blockOfControlIsWaitedFor();
        functions();
        functionBeforeBlock();
        operandOutside();
        operandAtTheEdges();
        blockOfOperandTooMany();
        loadedBlocksCount();
        blockBeforeNumber();
        operandIsWaitedFor();
        codeIsWaitedForAgain();
        tapeIsEmpty();
        divisionByZero();
        rootBelowZero();
        paperIsFull();
        instructionsDone();
        DUE.end();
    }

    private static void failed(String what, OneLevelStore x, int number, int control, int done) {
        DUE.is(what + ": state", x.job(0, 0), 4);
        DUE.is(what + ": number", x.job(0, 1), number);
        DUE.is(what + ": CONTROL is as before", x.register(0, 127), control);
        DUE.is(what + ": instructions", x.job(0, 2), done);
        DUE.is(what + ": waits", x.job(0, 3), -1);
        DUE.is(what + ": BLOCKS", x.job(0, 4), 0);
        DUE.is(what + ": all instructions", x.clock(1), done);
        DUE.is(what + ": its tick", x.job(0, 8), x.clock(0) - 1);
    }

    private static String octal(int f) {
        String digits = Integer.toOctalString(f);
        return " " + "0000".substring(digits.length()) + digits + " ";
    }

    private static void limit() {
        DUE.about("7 when as many instructions were done as its LIMIT");
        OneLevelStore x = Lone.begun(3, 4, Code.of(0124, 5, 0, 1), Code.jump(0));
        x.run(FIRST + 3);
        DUE.is("all that it may", x.job(0, 2), 3);
        DUE.is("still ready", x.job(0, 0), 1);
        x.run(1);
        failed("one more", x, 7, 1, 3);
        DUE.is("B5", x.register(0, 5), 2);
    }

    private static void limitOfOne() {
        DUE.about("7 when as many instructions were done as its LIMIT");
        OneLevelStore x = Lone.begun(1, 4, Code.of(0124, 5, 0, 1), Code.of(0124, 5, 0, 1));
        x.run(FIRST + 1);
        DUE.is("the one is done", x.job(0, 2), 1);
        DUE.is("still ready", x.job(0, 0), 1);
        x.run(1);
        failed("the second", x, 7, 1, 1);
        DUE.is("B5", x.register(0, 5), 1);
    }

    private static void lastOneThatItMayEnds() {
        DUE.about("7 when as many instructions were done as its LIMIT");
        OneLevelStore x = Lone.begun(2, 4, Code.of(0124, 5, 0, 1), Code.END);
        x.run(FIRST + 2);
        DUE.is("the second one is 1117", x.job(0, 0), 3);
        DUE.is("no number", x.job(0, 1), 0);
    }

    private static void limitBeforeAllElse() {
        DUE.about("at the first thing that fails the job FAILS (with a number): 7");
        OneLevelStore x = Lone.begun(1, 1, Code.jump(-1));
        x.run(FIRST + 2);
        failed("before 2", x, 7, -1, 1);
        x = Lone.begun(1, 1, Code.jump(512));
        x.run(FIRST + 2);
        failed("before 3", x, 7, 512, 1);
        x = Lone.begun(1, 2, Code.jump(512));
        x.run(FIRST + 2);
        failed("before it waits", x, 7, 512, 1);
        x = Lone.begun(1, 1, Code.jump(1), 0);
        x.run(FIRST + 2);
        failed("before 1", x, 7, 1, 1);
    }

    private static void controlOutside() {
        DUE.about("2 when CONTROL is no ADDRESS");
        int[] outside = {-1, 1048576, Code.GREATEST_HALF, Code.LEAST_HALF};
        for (int address : outside) {
            OneLevelStore x = Lone.begun(10, 4, Code.jump(address));
            x.run(FIRST + 2);
            failed("a jump to " + address, x, 2, address, 1);
            x = new OneLevelStore(3);
            x.start(0, address, 10, 4);
            x.run(1);
            failed("begun at " + address, x, 2, address, 0);
        }
    }

    private static void controlAtTheEdges() {
        DUE.about("2 when CONTROL is no ADDRESS");
        OneLevelStore x = new OneLevelStore(4);
        Code.load(x, 0, 1048575, Code.of(0121, 5, 127, 0));
        x.start(0, 1048575, 10, 1);
        x.run(FIRST + 1);
        DUE.is("the last address is one", x.job(0, 2), 1);
        DUE.is("CONTROL is 1 more", x.register(0, 5), 1048576);
        x.run(1);
        failed("behind the last address", x, 2, 1048576, 1);
        x = Lone.begun(10, 1, Code.of(0121, 5, 0, 8));
        x.run(FIRST + 1);
        DUE.is("the first address is one", x.register(0, 5), 8);
    }

    private static void blockOfControlTooMany() {
        DUE.about("its block is WANTED: 3, when it has as many as it may");
        OneLevelStore x = Lone.begun(10, 1, Code.jump(512));
        x.run(FIRST + 2);
        failed("a second one of one", x, 3, 512, 1);
        x = Lone.begun(10, 2, Code.jump(512));
        x.run(FIRST + 2);
        DUE.is("a second one of two is waited for", x.job(0, 3), 1);
        DUE.is("and is one of them", x.job(0, 4), 2);
    }

    private static void blockOfControlIsWaitedFor() {
        DUE.about("the job WAITS for it, nothing of the instruction is done, CONTROL is as before");
        OneLevelStore x = Lone.begun(10, 2, Code.jump(700));
        x.run(FIRST + 2);
        DUE.job("in the tick of it", x, 0, 2, 0, 1, 1, 2, 0, 0, 0, -1);
        DUE.is("CONTROL", x.register(0, 127), 700);
        DUE.is("instructions", x.clock(1), 1);
        x = new OneLevelStore(3);
        x.start(0, 5, 10, 1);
        x.run(1);
        DUE.job("the first of all", x, 0, 2, 0, 0, 0, 1, 0, 0, 0, -1);
        DUE.is("CONTROL", x.register(0, 127), 5);
    }

    /** Every F there can be, with an N that is no ADDRESS: so those with s fail by 2, those that are none by 1. */
    private static void functions() {
        DUE.about("F of the word that lies there: 1 when it is none of these. If it has s, S is an ADDRESS: else 2");
        for (int f = 0; f < 1024; f++) {
            OneLevelStore x = Lone.begun(10, 1, Code.of(f, 0, 0, 1048576));
            x.run(FIRST + 1);
            String what = "F" + octal(f);
            if (WITH_WORD.contains(octal(f))) {
                failed(what, x, 2, 0, 0);
            } else if (WITHOUT_WORD.contains(octal(f))) {
                DUE.is(what + "is done", x.job(0, 0), 1);
                DUE.is(what + "is done", x.job(0, 2), 1);
            } else if (f == 01050) {
                failed(what, x, 4, 0, 0);
            } else if (f == 01117) {
                DUE.is(what + "ends", x.job(0, 0), 3);
            } else {
                failed(what, x, 1, 0, 0);
            }
        }
    }

    private static void functionBeforeBlock() {
        DUE.about("1 when it is none of these (before s)");
        OneLevelStore x = Lone.begun(10, 1, Code.of(0323, 0, 0, 512));
        x.run(FIRST + 1);
        failed("before 3", x, 1, 0, 0);
        x = Lone.begun(10, 2, Code.of(0323, 0, 0, 512));
        x.run(FIRST + 1);
        failed("before it waits", x, 1, 0, 0);
    }

    private static void operandOutside() {
        DUE.about("If it has s, S is an ADDRESS: else 2");
        int[] outside = {-1, 1048576, Code.GREATEST_HALF, Code.LEAST_HALF};
        for (int address : outside) {
            OneLevelStore x = Lone.begun(10, 1, Code.of(0121, 5, 0, 6), Code.of(0113, 5, 0, address));
            x.run(FIRST + 2);
            failed("0113 at " + address, x, 2, 1, 1);
            x = Lone.begun(10, 1, Code.of(0324, 0, 0, 1), Code.of(0346, 0, 0, address));
            x.run(FIRST + 2);
            failed("0346 at " + address, x, 2, 1, 1);
            DUE.is("A is as before", x.accumulator(0), Code.of(0346, 0, 0, address) << 16 >> 16);
        }
    }

    private static void operandAtTheEdges() {
        DUE.about("If it has s, S is an ADDRESS: else 2");
        OneLevelStore x = Lone.begun(10, 2, Code.of(0101, 5, 0, 0), Code.of(0324, 0, 0, 1048575));
        x.run(FIRST + 1);
        DUE.is("address 0", x.register(0, 5), 0);
        DUE.is("is done", x.job(0, 2), 1);
        x.run(2);
        DUE.is("address 1048575", x.job(0, 2), 2);
        DUE.is("its block", x.frame(1, 2), 2047);
    }

    private static void blockOfOperandTooMany() {
        DUE.about("A block that is WANTED and none of the job's BLOCKS: 3, when it has as many as it may");
        OneLevelStore x = Lone.begun(10, 2, Code.of(0324, 0, 0, 512), Code.of(0324, 0, 0, 1023),
            Code.of(0324, 0, 0, 511), Code.of(0356, 0, 0, 1024));
        x.run(FIRST + 1);
        DUE.is("the second of two is one of them", x.job(0, 4), 2);
        x.run(3);
        DUE.is("those that it has are no more", x.job(0, 2), 3);
        DUE.is("still two", x.job(0, 4), 2);
        x.run(1);
        failed("the third of two", x, 3, 3, 3);
    }

    private static void loadedBlocksCount() {
        DUE.about("Its BLOCKS are those that it has had a word LOADED into, or that an instruction of it WANTED");
        OneLevelStore x = new OneLevelStore(4);
        Code.load(x, 0, 0, Code.of(0113, 0, 0, 1023), Code.of(0113, 0, 0, 1024), Code.of(0113, 0, 0, 1536));
        Code.load(x, 0, 512, 1);
        DUE.is("loaded", x.job(0, 4), 2);
        Code.load(x, 0, 1023, 1);
        DUE.is("loaded again", x.job(0, 4), 2);
        x.start(0, 0, 10, 3);
        x.run(1);
        DUE.is("wanted, but loaded before", x.job(0, 4), 2);
        Code.runTo(x, 600);
        DUE.is("by 3, at the fourth", x.job(0, 1), 3);
        DUE.is("behind the third", x.register(0, 127), 2);
    }

    private static void blockBeforeNumber() {
        DUE.about("s is the word there. Then all else (4, 5, 6)");
        OneLevelStore x = Lone.begun(10, 1, Code.of(0374, 0, 0, 512));
        x.run(FIRST + 1);
        failed("3 before 5", x, 3, 0, 0);
        x = Lone.begun(10, 2, Code.of(0374, 0, 0, 512));
        x.run(FIRST + 1);
        DUE.is("it waits before 5", x.job(0, 0), 2);
        x.run(1);
        failed("then 5", x, 5, 0, 0);
    }

    private static void operandIsWaitedFor() {
        DUE.about("nothing of the instruction is done, CONTROL is as before (but the block is one of its BLOCKS)");
        OneLevelStore x = Lone.begun(10, 2, Code.of(0324, 0, 0, 0), Code.of(0346, 0, 0, 512));
        x.run(FIRST + 2);
        DUE.job("it waits", x, 0, 2, 0, 1, 1, 2, 0, 0, 0, -1);
        DUE.is("CONTROL", x.register(0, 127), 1);
        DUE.is("A", x.accumulator(0), Code.of(0324, 0, 0, 0));
        DUE.is("the word", x.word(0, 512), 0);
        DUE.is("instructions", x.clock(1), 1);
        x.run(1);
        DUE.is("then A", x.accumulator(0), 0);
        DUE.is("then the word", x.word(0, 512), Code.of(0324, 0, 0, 0));
        DUE.is("then CONTROL", x.register(0, 127), 2);
    }

    /** In tick 291 block 2 comes and block 0, the code, is CHOSEN for it: it is wanted first of all. */
    private static void codeIsWaitedForAgain() {
        DUE.about("A block that is WANTED and not IN USE (PART 2): the job WAITS for it");
        OneLevelStore x = Scenes.sweeps();
        Code.runTo(x, 291);
        DUE.is("it waits for block 2", x.job(2, 3), 2);
        x.run(1);
        DUE.is("which is there", x.frame(2, 2), 2);
        DUE.is("and for block 0, which is GOING", x.job(2, 3), 0);
        DUE.is("CONTROL", x.register(2, 127), 1);
        DUE.is("still three", x.job(2, 4), 3);
    }

    private static void tapeIsEmpty() {
        DUE.about("1050 A = the first word of the TAPE, which is gone then (4 without one)");
        OneLevelStore x = Lone.begun(10, 2, Code.of(01050, 0, 0, 0), Code.of(01050, 0, 0, 0),
            Code.of(01050, 0, 0, 0));
        Code.tape(x, 0, 12, -13);
        x.run(FIRST + 1);
        DUE.is("the first", x.accumulator(0), 12);
        DUE.is("is gone", x.job(0, 5), 1);
        x.run(1);
        DUE.is("the last", x.accumulator(0), -13);
        DUE.is("is gone", x.job(0, 5), 0);
        x.run(1);
        failed("without one", x, 4, 2, 2);
        DUE.is("A", x.accumulator(0), -13);
        x = Lone.begun(10, 2, Code.of(01050, 0, 0, 0));
        x.run(FIRST + 1);
        failed("never one", x, 4, 0, 0);
    }

    private static void divisionByZero() {
        DUE.about("0374 A = A / s, towards 0 (5 when s is 0)");
        OneLevelStore x = Lone.begun(10, 2, Code.of(0324, 0, 0, 2), Code.of(0374, 0, 0, 3), 5, 0);
        x.run(FIRST + 2);
        failed("5 by 0", x, 5, 1, 1);
        DUE.is("A", x.accumulator(0), 5);
        x = Lone.begun(10, 2, Code.of(0374, 0, 0, 1), 0);
        x.run(FIRST + 1);
        failed("0 by 0", x, 5, 0, 0);
        x = Lone.begun(10, 2, Code.of(0374, 0, 0, 1), -1);
        x.run(FIRST + 1);
        DUE.is("0 by -1", x.job(0, 2), 1);
    }

    private static void rootBelowZero() {
        DUE.about("1300 (5 when A is below 0)");
        long[] below = {-1, Code.LEAST_WORD};
        for (long a : below) {
            OneLevelStore x = Lone.begun(10, 2, Code.of(0324, 0, 0, 2), Code.of(01300, 0, 0, 0), a);
            x.run(FIRST + 2);
            failed("root of " + a, x, 5, 1, 1);
            DUE.is("A", x.accumulator(0), a);
        }
        OneLevelStore x = Lone.begun(10, 2, Code.of(01300, 0, 0, 0));
        x.run(FIRST + 1);
        DUE.is("root of 0", x.job(0, 2), 1);
    }

    private static void paperIsFull() {
        DUE.about("1066 A comes behind the PAPER (6 when it has 200)");
        OneLevelStore x = Lone.begun(1000, 2, Code.of(0320, 0, 0, 3), Code.of(01066, 0, 0, 0), Code.jump(0), 1);
        x.run(FIRST + 599);
        DUE.is("the 200th", x.job(0, 6), 200);
        DUE.is("still ready", x.job(0, 0), 1);
        DUE.is("the first word", x.paper(0, 0), 1);
        DUE.is("the last word", x.paper(0, 199), 200);
        x.run(3);
        failed("the 201st", x, 6, 1, 601);
        DUE.is("200 still", x.job(0, 6), 200);
        DUE.is("the last word still", x.paper(0, 199), 200);
        DUE.is("none behind it", x.paper(0, 200), 0);
        DUE.is("A", x.accumulator(0), 201);
    }

    private static void instructionsDone() {
        DUE.about("1121 Ba = how many instructions it has done, this one too");
        OneLevelStore x = Lone.begun(10, 2, Code.of(01121, 5, 0, 0), Code.of(0324, 0, 0, 512),
            Code.of(01121, 6, 0, 0), Code.END);
        x.run(FIRST + 5);
        DUE.is("the first", x.register(0, 5), 1);
        DUE.is("the third, for waiting is no doing", x.register(0, 6), 3);
        DUE.is("1117 is done too", x.job(0, 2), 4);
    }
}

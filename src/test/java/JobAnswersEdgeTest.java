/** Promises 7 to 11: what is told of jobs in each state, at the edges of what can be asked, and of none such. */
final class JobAnswersEdgeTest {
    private static final int MIN = Integer.MIN_VALUE;
    private static final int MAX = Integer.MAX_VALUE;
    private static final int[] NO_JOBS = {-1, 4, MIN, MAX};
    private static final Due DUE = new Due();

    public static void main(String[] args) {
        jobStates();
        jobNumberOfFailure();
        jobWaitsForNone();
        jobBlocksWhenOver();
        jobTickInWhichItWasOver();
        jobOthers();
        registers();
        registersNoneSuch();
        accumulators();
        wordWhereverItIs();
        wordNoneSuch();
        wordOfJobThatIsOver();
        papers();
        papersNoneSuch();
        DUE.end();
    }

    private static void jobStates() {
        DUE.about("0 whether it has not begun (0), is READY (1), WAITS (2), has ENDED (3) or FAILED (4)");
        OneLevelStore x = new OneLevelStore(4);
        Code.load(x, 3, 0, Code.of(0121, 5, 0, 1), Code.END);
        DUE.is("not begun", x.job(3, 0), 0);
        x.start(3, 0, 5, 1);
        DUE.is("READY", x.job(3, 0), 1);
        x.run(1);
        DUE.is("WAITS", x.job(3, 0), 2);
        x.run(288);
        DUE.is("READY again", x.job(3, 0), 1);
        x.run(1);
        DUE.is("ENDED", x.job(3, 0), 3);
        x.start(0, -1, 5, 1);
        x.run(1);
        DUE.is("FAILED", x.job(0, 0), 4);
    }

    private static void jobNumberOfFailure() {
        DUE.about("1 the number by which it FAILED (0)");
        OneLevelStore x = Lone.begun(5, 1, Code.END);
        DUE.is("READY", x.job(0, 1), 0);
        x.run(1);
        DUE.is("WAITS", x.job(0, 1), 0);
        Code.runTo(x, 289);
        DUE.is("ENDED", x.job(0, 1), 0);
        x.start(1, -1, 5, 1);
        x.run(1);
        DUE.is("FAILED", x.job(1, 1), 2);
        DUE.is("not begun", x.job(2, 1), 0);
    }

    private static void jobWaitsForNone() {
        DUE.about("3 the block for which it WAITS (NONE)");
        OneLevelStore x = new OneLevelStore(4);
        Code.load(x, 0, 1048575, Code.of(0121, 127, 0, 0));
        DUE.is("not begun", x.job(0, 3), -1);
        x.start(0, 1048575, 5, 2);
        DUE.is("READY", x.job(0, 3), -1);
        x.run(1);
        DUE.is("the last one there can be", x.job(0, 3), 2047);
        Code.runTo(x, 289);
        DUE.is("READY again", x.job(0, 3), -1);
        x.run(1);
        DUE.is("the first one there can be", x.job(0, 3), 0);
        x.run(1);
        DUE.is("FAILED", x.job(0, 0), 4);
        DUE.is("for none then", x.job(0, 3), -1);
    }

    private static void jobBlocksWhenOver() {
        DUE.about("4 its BLOCKS (0 when it is over)");
        OneLevelStore x = Lone.begun(5, 3, Code.of(0324, 0, 0, 512), Code.END);
        Code.runTo(x, 290);
        DUE.is("two", x.job(0, 4), 2);
        x.run(1);
        DUE.is("ENDED", x.job(0, 4), 0);
        x = Lone.begun(5, 3, 0);
        DUE.is("one", x.job(0, 4), 1);
        Code.runTo(x, 289);
        DUE.is("FAILED", x.job(0, 4), 0);
    }

    private static void jobTickInWhichItWasOver() {
        DUE.about("8 the tick in which it was over (NONE)");
        OneLevelStore x = new OneLevelStore(4);
        x.start(0, -1, 5, 1);
        DUE.is("READY", x.job(0, 8), -1);
        x.run(1);
        DUE.is("tick 0", x.job(0, 8), 0);
        x.run(1);
        x.start(1, 0, 5, 1);
        x.run(1);
        DUE.is("WAITS", x.job(1, 8), -1);
        x.run(1);
        DUE.is("tick 3", x.job(1, 8), 3);
        x.run(50);
        DUE.is("tick 0 still", x.job(0, 8), 0);
        DUE.is("not begun", x.job(2, 8), -1);
    }

    private static void jobOthers() {
        DUE.about("NONE for others (job)");
        OneLevelStore x = Lone.begun(5, 1, Code.END);
        int[] none = {-1, 9, MIN, MAX};
        for (int what : none) {
            DUE.is("what " + what, x.job(0, what), -1);
        }
        for (int job : NO_JOBS) {
            for (int what = 0; what <= 8; what++) {
                DUE.is("job " + job + ", " + what, x.job(job, what), -1);
            }
        }
    }

    private static void registers() {
        DUE.about("A B register of a job");
        OneLevelStore x = Lone.begun(10, 1, Code.of(0121, 1, 0, 11), Code.of(0121, 126, 0, Code.LEAST_HALF),
            Code.of(0121, 64, 0, Code.GREATEST_HALF), Code.END);
        Code.runTo(x, 291);
        DUE.is("B0", x.register(0, 0), 0);
        DUE.is("B1", x.register(0, 1), 11);
        DUE.is("B64", x.register(0, 64), Code.GREATEST_HALF);
        DUE.is("B126", x.register(0, 126), Code.LEAST_HALF);
        DUE.is("B127", x.register(0, 127), 3);
        DUE.is("another job's", x.register(1, 126), 0);
    }

    private static void registersNoneSuch() {
        DUE.about("(0 for none such) (register)");
        OneLevelStore x = new OneLevelStore(3);
        for (int job = 0; job < 4; job++) {
            x.start(job, 77, 5, 1);
        }
        int[] none = {-1, 128, 255, MIN, MAX};
        for (int b : none) {
            DUE.is("B" + b, x.register(0, b), 0);
        }
        for (int job : NO_JOBS) {
            DUE.is("job " + job, x.register(job, 127), 0);
        }
    }

    private static void accumulators() {
        DUE.about("A of a job (0 for none such)");
        OneLevelStore x = new OneLevelStore(4);
        for (int job = 0; job < 4; job++) {
            Code.load(x, job, 0, Code.of(0324, 0, 0, 2), Code.END, -50 - job);
            x.start(job, 0, 5, 1);
        }
        Code.runTo(x, 1500);
        for (int job = 0; job < 4; job++) {
            DUE.is("job " + job, x.accumulator(job), -50 - job);
        }
        for (int job : NO_JOBS) {
            DUE.is("job " + job, x.accumulator(job), 0);
        }
    }

    /** Block 0 of the sweep: on the drum, COMING, IN USE, GOING, and on the drum again. */
    private static void wordWhereverItIs() {
        DUE.about("A word of a job's STORE, wherever it is");
        int[] ticks = {0, 1, 2, 257, 289, 292, 321, 353, 577, 609};
        for (int tick : ticks) {
            OneLevelStore x = Scenes.sweeps();
            Code.runTo(x, tick);
            DUE.is("at " + tick, x.word(2, 0), Code.of(0324, 0, 0, 512));
            DUE.is("the last of its program, at " + tick, x.word(2, 3), Code.END << 16 >> 16);
            DUE.is("behind it", x.word(2, 4), 0);
        }
        OneLevelStore x = new OneLevelStore(3);
        Code.load(x, 1, 5, 6);
        DUE.is("of one that has not begun", x.word(1, 5), 6);
    }

    private static void wordNoneSuch() {
        DUE.about("(0 for none such, and of a job that is over) (word)");
        OneLevelStore x = new OneLevelStore(3);
        for (int job = 0; job < 4; job++) {
            Code.load(x, job, 0, 5);
            Code.load(x, job, 1048575, 6);
        }
        DUE.is("the first", x.word(0, 0), 5);
        DUE.is("the last", x.word(3, 1048575), 6);
        int[] none = {-1, 1048576, MIN, MAX, -512, 1049088};
        for (int address : none) {
            DUE.is("address " + address, x.word(0, address), 0);
        }
        for (int job : NO_JOBS) {
            DUE.is("job " + job, x.word(job, 0), 0);
        }
        DUE.is("a block that it has not", x.word(0, 512), 0);
        x = new OneLevelStore(3);
        x.start(0, 0, 5, 1);
        x.run(1);
        DUE.is("a block that was never anywhere", x.word(0, 0), 0);
    }

    private static void wordOfJobThatIsOver() {
        DUE.about("0 of a job that is over");
        OneLevelStore x = Lone.begun(5, 2, Code.of(0113, 127, 0, 50), Code.END);
        Code.runTo(x, 289);
        DUE.is("before", x.word(0, 50), 1);
        x.run(1);
        DUE.is("ENDED", x.word(0, 50), 0);
        x = Lone.begun(5, 2, Code.of(0113, 127, 0, 50), 0);
        Code.load(x, 1, 0, 8);
        Code.runTo(x, 290);
        DUE.is("FAILED", x.word(0, 50), 0);
        DUE.is("another job's", x.word(1, 0), 8);
    }

    private static void papers() {
        DUE.about("The i-th word of a job's PAPER");
        OneLevelStore x = Lone.begun(1000, 2, Code.of(0320, 0, 0, 3), Code.of(01066, 0, 0, 0), Code.jump(0), 7);
        Code.runTo(x, 900);
        for (int i = 0; i < 200; i++) {
            DUE.is("word " + i, x.paper(0, i), 7 * (i + 1));
        }
        DUE.is("one more", x.paper(0, 200), 0);
    }

    private static void papersNoneSuch() {
        DUE.about("(0 for none such) (paper)");
        OneLevelStore x = Lone.begun(10, 2, Code.of(0324, 0, 0, 4), Code.of(01066, 0, 0, 0), Code.of(01066, 0, 0, 0),
            Code.jump(3), 7);
        Code.runTo(x, 300);
        DUE.is("the last", x.paper(0, 1), 7);
        int[] none = {-1, 2, 199, 200, MIN, MAX};
        for (int i : none) {
            DUE.is("word " + i, x.paper(0, i), 0);
        }
        for (int job : NO_JOBS) {
            DUE.is("job " + job, x.paper(job, 0), 0);
        }
        DUE.is("another job's", x.paper(1, 0), 0);
    }
}

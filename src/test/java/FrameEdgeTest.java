/** PART 2, step 2 of a tick: who has a frame, which, how, and when one is CHOSEN at all. One test a sentence. */
final class FrameEdgeTest {
    private static final Due DUE = new Due();

    public static void main(String[] args) {
        newBlockAtOnce();
        newBlockIsAllZero();
        newBlockThatWaitedForFrame();
        oldBlockComesBack();
        lowestEmptyFrame();
        jobsByNumber();
        allSixteenFrames();
        noneChosenWithAnEmptyFrame();
        noneChosenWithAGoingFrame();
        noneChosenWithoutOneInUse();
        chosenThoughNoneWaits();
        DUE.end();
    }

    /** Job 1 wants a new block in tick 287; in tick 288 that is there, and job 0, which goes before it, begins. */
    private static void newBlockAtOnce() {
        DUE.about("the frame is IN USE at once, all 0, t and L 0, no MARK, FRESH, and the job is READY");
        OneLevelStore x = new OneLevelStore(4);
        Code.load(x, 0, 0, Code.jump(0));
        Code.load(x, 1, 0, Code.of(0121, 1, 0, 221), Code.of(0203, 127, 1, 1), Code.of(0324, 0, 0, 512), Code.END);
        x.start(0, 0, 1000, 1);
        x.start(1, 0, 1000, 2);
        Code.runTo(x, 288);
        DUE.is("it waits", x.job(1, 3), 1);
        DUE.frame("it has none yet", x, 2, 0, -1);
        x.run(1);
        DUE.frame("it is there", x, 2, 1, 1, 1, 0, 0, 0, 1);
        DUE.is("its job is ready", x.job(1, 0), 1);
        DUE.is("which waits no more", x.job(1, 3), -1);
        DUE.is("no READ", x.drum(4), 0);
        DUE.is("no place", x.place(1, 0), -1);
    }

    /** Job 0 leaves words in its block 1, in frame 1; job 1 has its own block 1 there behind it. */
    private static void newBlockIsAllZero() {
        DUE.about("of a block that never was anywhere the frame is IN USE at once, all 0");
        OneLevelStore x = new OneLevelStore(3);
        Scenes.fill(x, 1);
        Code.load(x, 0, 0, Code.of(0113, 127, 0, 512), Code.of(0113, 127, 0, 1023), Code.END);
        Code.load(x, 1, 0, Code.of(0101, 5, 0, 512), Code.of(0101, 6, 0, 1023), Code.of(0121, 7, 0, 1), Code.END);
        x.start(0, 0, 10, 2);
        Code.runTo(x, 67);
        DUE.is("the words are there", x.word(0, 1023), 2);
        DUE.frame("in frame 1", x, 1, 1, 0, 1);
        Code.runTo(x, 100);
        DUE.is("0 has ended", x.job(0, 0), 3);
        x.start(1, 0, 10, 2);
        Code.runTo(x, 354);
        DUE.frame("in frame 1 again", x, 1, 1, 1, 1);
        Code.runTo(x, 400);
        DUE.is("1 has ended", x.job(1, 2), 4);
        DUE.is("the first word", x.register(1, 5), 0);
        DUE.is("the last word", x.register(1, 6), 0);
        DUE.is("the program went on", x.register(1, 7), 1);
    }

    /** From tick 291 to tick 351 no frame is EMPTY: what job 1 wants then it has in tick 352, at once. */
    private static void newBlockThatWaitedForFrame() {
        DUE.about("of a block that never was anywhere the frame is IN USE at once (also if no frame was EMPTY)");
        OneLevelStore x = Scenes.sweeps();
        Code.runTo(x, 300);
        x.start(1, 0, 10, 1);
        Code.runTo(x, 352);
        DUE.job("it waits", x, 1, 2, 0, 0, 0, 1, 0, 0, 0, -1);
        x.run(1);
        DUE.is("it fails, for its word is 0", x.job(1, 1), 1);
        DUE.is("in this tick", x.job(1, 8), 352);
    }

    private static void oldBlockComesBack() {
        DUE.about("else the frame is COMING, and a READ of it comes behind the QUEUE");
        OneLevelStore x = new OneLevelStore(3);
        Code.load(x, 0, 0, Code.of(0113, 127, 0, 512), Code.of(0324, 0, 0, 1024), Code.of(0324, 0, 0, 1536),
            Code.of(0324, 0, 0, 512), Code.jump(4));
        x.start(0, 0, 100000, 4);
        Code.runTo(x, 353);
        DUE.frame("block 0 was written, and comes again", x, 0, 2, 0, 0, 0, 0, 0, 0);
        DUE.is("a READ of it", x.queued(0), 0);
        DUE.is("its words, on the drum", x.word(0, 4), Code.jump(4));
        Code.runTo(x, 3000);
        DUE.is("what was stored before it was written", x.accumulator(0), 1);
        DUE.is("the word", x.word(0, 512), 1);
    }

    private static void lowestEmptyFrame() {
        DUE.about("if a frame is EMPTY, the lowest one");
        OneLevelStore x = new OneLevelStore(5);
        for (int job = 0; job < 3; job++) {
            Code.load(x, job, 0, job == 1 ? Code.END : Code.jump(0));
            x.start(job, 0, 1000, 2);
        }
        Code.runTo(x, 65);
        DUE.is("1 has ended", x.job(1, 0), 3);
        DUE.frame("its frame is EMPTY", x, 1, 0);
        DUE.frame("those around it are not", x, 0, 2, 0, 0);
        DUE.frame("those around it are not", x, 2, 2, 2, 0);
        x.forget(1);
        Code.load(x, 1, 512, Code.END);
        x.start(1, 512, 10, 1);
        x.run(2);
        DUE.frame("so it is had first", x, 1, 2, 1, 1);
        DUE.frame("not one behind", x, 3, 0);
    }

    /** Job 3 wants a frame before job 1 does; both wait till frame 0 is EMPTY, in tick 352. */
    private static void jobsByNumber() {
        DUE.about("For each job that WAITS, by number");
        OneLevelStore x = Scenes.sweeps();
        Code.runTo(x, 300);
        x.start(3, 0, 10, 1);
        x.run(1);
        x.start(1, 0, 10, 1);
        Code.runTo(x, 352);
        DUE.is("3 waits", x.job(3, 0), 2);
        DUE.is("1 waits", x.job(1, 0), 2);
        x.run(1);
        DUE.is("1 had the frame, and has failed", x.job(1, 8), 352);
        DUE.is("3 waits", x.job(3, 0), 2);
        x.run(1);
        DUE.frame("then 2", x, 0, 2, 2, 0);
        DUE.is("3 waits", x.job(3, 0), 2);
    }

    private static OneLevelStore manyBlocks(int frames) {
        OneLevelStore x = new OneLevelStore(frames);
        Code.load(x, 0, 0, Code.of(0324, 0, 1, 512), Code.of(0124, 1, 0, 512), Code.jump(0));
        x.start(0, 0, 1000, 40);
        return x;
    }

    /** Each block takes four ticks: wanted, there, and two instructions more. */
    private static void allSixteenFrames() {
        DUE.about("THE CORE has FRAMES, 0, 1, .. (3 to 16), each with room for one block");
        for (int frames = 3; frames <= 16; frames++) {
            OneLevelStore x = manyBlocks(frames);
            int full = Lone.FIRST + 4 * (frames - 2) + 1;
            Code.runTo(x, full);
            DUE.is("none CHOSEN yet", x.clock(3), 0);
            DUE.frame("the last is EMPTY", x, frames - 1, 0);
            x.run(1);
            DUE.frame("the last is IN USE", x, frames - 1, 1, 0, frames - 1);
            DUE.is("one is CHOSEN", x.clock(3), 1);
            DUE.is("no more frames", x.frame(frames, 0), -1);
        }
    }

    private static void noneChosenWithAnEmptyFrame() {
        DUE.about("Then, if no frame is EMPTY");
        OneLevelStore x = Lone.begun(1000, 8, Code.of(0324, 0, 0, 512), Code.of(0324, 0, 0, 1024), Code.jump(0));
        Code.runTo(x, 900);
        DUE.frame("three are IN USE", x, 2, 1, 0, 2);
        DUE.frame("the last is EMPTY", x, 3, 0);
        DUE.is("none is CHOSEN", x.clock(3), 0);
        DUE.is("the job goes on", x.job(0, 0), 1);
    }

    private static void noneChosenWithAGoingFrame() {
        DUE.about("if no frame is EMPTY, and none GOING");
        OneLevelStore x = Scenes.sweeps();
        Code.runTo(x, 292);
        DUE.is("one is CHOSEN", x.clock(3), 1);
        Code.runTo(x, 352);
        DUE.is("no more while it is GOING", x.clock(3), 1);
        DUE.frame("IN USE still", x, 1, 1, 2, 1);
        DUE.frame("IN USE still", x, 2, 1, 2, 2);
        x.run(1);
        DUE.is("the next", x.clock(3), 2);
    }

    private static OneLevelStore threeJobs() {
        OneLevelStore x = new OneLevelStore(3);
        for (int job = 0; job < 3; job++) {
            Code.load(x, job, 0, Code.END);
            x.start(job, 0, 10, 1);
        }
        return x;
    }

    private static void noneChosenWithoutOneInUse() {
        DUE.about("one that is IN USE (if there is one) is CHOSEN");
        OneLevelStore x = threeJobs();
        Code.runTo(x, 64);
        for (int i = 0; i < 3; i++) {
            DUE.frame("all are COMING", x, i, 2, i, 0, 0, 0, 0, 0);
        }
        DUE.is("none is CHOSEN", x.clock(3), 0);
        DUE.is("none such", x.chosen(0), -1);
    }

    private static void chosenThoughNoneWaits() {
        DUE.about("Then, if no frame is EMPTY, and none GOING, one that is IN USE is CHOSEN: it is GOING");
        OneLevelStore x = threeJobs();
        Code.runTo(x, 65);
        DUE.frame("as soon as it is there", x, 1, 3, 1, 0, 0, 0, 0, 1);
        DUE.is("CHOSEN", x.chosen(0), 2048);
        DUE.is("a WRITE of it comes behind the QUEUE", x.queued(1), 1);
        DUE.drum("the next READ is under way", x, 2, 2, 0, 31, 2, 1, 0);
    }
}

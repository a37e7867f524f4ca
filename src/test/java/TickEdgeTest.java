/** PART 2, steps 3 and 4 of a tick: who does an instruction, MARKS, and LOOKS. One test a sentence. */
final class TickEdgeTest {
    private static final Due DUE = new Due();

    public static void main(String[] args) {
        readyJobOfLowestNumber();
        idleTicks();
        marks();
        waitingMarksNothing();
        looksAt64();
        looksOfAllJobsTogether();
        endedAsThe64th();
        looksOfFramesInUse();
        looksNotOfGoingFrames();
        idleTimeBefore();
        DUE.end();
    }

    private static void readyJobOfLowestNumber() {
        DUE.about("The READY job of the lowest number does an instruction");
        OneLevelStore x = new OneLevelStore(4);
        for (int job = 2; job >= 0; job--) {
            x.start(job, 0, 10, 1);
        }
        x.run(1);
        DUE.is("0 was first, and waits", x.job(0, 0), 2);
        DUE.is("1 is ready", x.job(1, 0), 1);
        DUE.is("2 is ready", x.job(2, 0), 1);
        x.run(1);
        DUE.is("0 again, which fails", x.job(0, 8), 1);
        DUE.is("1 is ready", x.job(1, 0), 1);
        x.run(2);
        DUE.is("then 1", x.job(1, 8), 3);
        DUE.is("2 is ready", x.job(2, 0), 1);
        x.run(2);
        DUE.is("then 2", x.job(2, 8), 5);
    }

    private static void idleTicks() {
        DUE.about("without one the tick is IDLE");
        OneLevelStore x = Lone.begun(3, 2, Code.of(0324, 0, 0, 512), Code.END);
        x.run(1);
        DUE.is("it waits by an instruction", x.clock(2), 0);
        x.run(1);
        DUE.is("none is ready", x.clock(2), 1);
        Code.runTo(x, 288);
        DUE.is("all the while", x.clock(2), 287);
        x.run(3);
        DUE.is("it waits, does, and ends", x.clock(2), 287);
        DUE.is("it has ended", x.job(0, 0), 3);
        x.run(1);
        DUE.is("none is ready", x.clock(2), 288);
        x = new OneLevelStore(3);
        x.start(0, -1, 1, 1);
        x.run(1);
        DUE.is("it fails", x.clock(2), 0);
    }

    private static void marks() {
        DUE.about("An instruction that is done MARKS the frames of its blocks; they are FRESH no more");
        OneLevelStore x = Lone.begun(1000, 3, Code.of(0324, 0, 0, 512), Code.of(0121, 1, 0, 61),
            Code.of(0203, 127, 1, 2), Code.of(0121, 5, 0, 1), Code.of(0101, 5, 0, 4), Code.of(0113, 5, 0, 600));
        Code.runTo(x, 290);
        DUE.frame("with s: the code", x, 0, 1, 0, 0, 0, 0, 1, 0);
        DUE.frame("with s: that of s", x, 1, 1, 0, 1, 0, 0, 1, 0);
        Code.runTo(x, 353);
        DUE.frame("the look takes the MARKS", x, 0, 1, 0, 0, 0, 0, 0, 0);
        DUE.frame("the look takes the MARKS", x, 1, 1, 0, 1, 0, 0, 0, 0);
        x.run(1);
        DUE.frame("without s: the code", x, 0, 1, 0, 0, 0, 0, 1, 0);
        DUE.frame("without s: no other", x, 1, 1, 0, 1, 0, 0, 0, 0);
        x.run(1);
        DUE.frame("s in the code's block: no other", x, 1, 1, 0, 1, 0, 0, 0, 0);
        x.run(1);
        DUE.frame("s in the other: that too", x, 1, 1, 0, 1, 0, 0, 1, 0);
    }

    private static void waitingMarksNothing() {
        DUE.about("An instruction that is done MARKS (one that waits does not)");
        OneLevelStore x = Lone.begun(1000, 3, Code.of(0324, 0, 0, 512));
        Code.runTo(x, 289);
        DUE.is("it waits", x.job(0, 3), 1);
        DUE.frame("no MARK, and FRESH still", x, 0, 1, 0, 0, 0, 0, 0, 1);
        x.run(1);
        DUE.frame("done", x, 0, 1, 0, 0, 0, 0, 1, 0);
    }

    /** The 64th instruction is done in tick 351; the 65th wants a block, and is done in tick 353. */
    private static void looksAt64() {
        DUE.about("When one was done, and so many were done that it is divisible by 64: a LOOK");
        OneLevelStore x = new OneLevelStore(4);
        x.run(1);
        DUE.is("none at 0", x.clock(5), 0);
        x = Lone.begun(1000, 3, Code.of(0121, 1, 0, 62), Code.of(0203, 127, 1, 1), Code.of(0324, 0, 0, 512),
            Code.of(0121, 1, 0, 61), Code.of(0203, 127, 1, 4), Code.jump(5));
        Code.runTo(x, 351);
        DUE.is("63 are done", x.clock(1), 63);
        DUE.is("none yet", x.clock(5), 0);
        DUE.frame("marked", x, 0, 1, 0, 0, 0, 0, 1, 0);
        x.run(1);
        DUE.is("64 are done", x.clock(1), 64);
        DUE.is("one", x.clock(5), 1);
        DUE.frame("no MARK then", x, 0, 1, 0, 0, 0, 0, 0, 0);
        x.run(1);
        DUE.is("it waits", x.job(0, 3), 1);
        DUE.is("64 are done still, but none in this tick", x.clock(1), 64);
        DUE.is("so no LOOK", x.clock(5), 1);
        DUE.frame("t is as it was", x, 0, 1, 0, 0, 0, 0, 0, 0);
        Code.runTo(x, 353 + 63);
        DUE.is("127 are done", x.clock(1), 127);
        DUE.is("one still", x.clock(5), 1);
        x.run(1);
        DUE.is("two", x.clock(5), 2);
    }

    /** Job 0 does two instructions, the second is its end; then job 1 goes on: 2 and 62 are 64. */
    private static void looksOfAllJobsTogether() {
        DUE.about("so many were done by all jobs together that it is divisible by 64");
        OneLevelStore x = new OneLevelStore(4);
        Scenes.fill(x, 1);
        Code.load(x, 0, 0, Code.of(0121, 5, 0, 1), Code.END);
        Code.load(x, 1, 0, Code.jump(0));
        x.start(0, 0, 10, 1);
        x.start(1, 0, 1000, 1);
        Code.runTo(x, 96);
        DUE.is("two of job 0", x.clock(1), 2);
        Code.runTo(x, 96 + 61);
        DUE.is("63", x.clock(1), 63);
        DUE.is("none yet", x.clock(5), 0);
        x.run(1);
        DUE.is("62 of job 1", x.job(1, 2), 62);
        DUE.is("a LOOK", x.clock(5), 1);
    }

    private static void endedAsThe64th() {
        DUE.about("When one was done (ENDED too)");
        OneLevelStore x = Lone.begun(100, 1, Code.of(0121, 1, 0, 61), Code.of(0203, 127, 1, 1), Code.END);
        Code.runTo(x, 288 + 63);
        DUE.is("63 are done", x.clock(1), 63);
        DUE.is("none yet", x.clock(5), 0);
        x.run(1);
        DUE.is("it has ended", x.job(0, 0), 3);
        DUE.is("64", x.clock(1), 64);
        DUE.is("a LOOK", x.clock(5), 1);
        x.run(100);
        DUE.is("no more", x.clock(5), 1);
    }

    /** Job 0 does 64 instructions in the ticks 288 to 351, while frame 0 of job 1 is COMING. */
    private static void looksOfFramesInUse() {
        DUE.about("a LOOK: of each frame IN USE");
        OneLevelStore x = Scenes.comesBackUnused();
        Code.runTo(x, 400);
        DUE.is("looks", x.clock(5), 1);
        DUE.frame("not of one that was COMING", x, 0, 1, 1, 0, 0, 0, 0, 1);
        Code.runTo(x, 416);
        DUE.is("looks", x.clock(5), 2);
        DUE.frame("of one that is FRESH, without a MARK: t + 1", x, 0, 1, 1, 0, 1, 0, 0, 1);
    }

    /** Z is the 192nd instruction: in its tick X is CHOSEN, with t 1, and the LOOK comes behind that. */
    private static void looksNotOfGoingFrames() {
        DUE.about("a LOOK: of each frame IN USE (not of one that is GOING)");
        OneLevelStore x = Schedule.begun(4, "XY", "Y", ".Z", "");
        Code.runTo(x, Schedule.tickOf(192, 3));
        DUE.frame("X before it", x, 1, 1, 0, 1, 1, 0, 0, 0);
        DUE.is("looks", x.clock(5), 2);
        x.run(1);
        DUE.is("looks", x.clock(5), 3);
        DUE.frame("X as it was", x, 1, 3, 0, 1, 1, 0, 0, 0);
        DUE.frame("Y, which is IN USE", x, 2, 1, 0, 2, 1, 0, 0, 0);
    }

    private static void idleTimeBefore() {
        DUE.about("with a MARK: if t is above 0, L = t; then t = 0; without: t = t + 1");
        int[][] due = {{0, 0}, {0, 0}, {1, 0}, {2, 0}, {0, 2}, {0, 2}, {1, 2}, {0, 1}, {1, 1}};
        OneLevelStore x = Schedule.begun(4, "X", "X", "", "", "X", "X", "", "X", "");
        for (int i = 0; i < due.length; i++) {
            Code.runTo(x, Schedule.tickOf(64 * (i + 1), 1) + 1);
            DUE.is("looks", x.clock(5), i + 1);
            DUE.frame("behind look " + i, x, 1, 1, 0, 1, due[i][0], due[i][1], 0, 0);
        }
    }
}

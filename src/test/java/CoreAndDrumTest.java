/** PART 2 and the promises 12 to 16: frames, places, transfers and the rule, tick by tick. */
final class CoreAndDrumTest {
    private static final Due DUE = new Due();

    public static void main(String[] args) {
        firstRead();
        firstChoices();
        writesAndReads();
        endOfSweep();
        looks();
        ruleOfIdleTimeBefore();
        ruleOfLongIdleTime();
        allFresh();
        jobsByNumber();
        queueSkips();
        writeOfJobThatIsOver();
        queuedWriteOfJobThatIsOver();
        queueBehindWriteThatIsGone();
        manyChosen();
        wrongInputs();
        DUE.end();
    }

    private static OneLevelStore sweepAt(int ticks) {
        OneLevelStore x = Scenes.sweeps();
        Code.runTo(x, ticks);
        return x;
    }

    private static void frame(String when, OneLevelStore x, int frame, int... wants) {
        for (int what = 0; what < wants.length; what++) {
            DUE.is(when + ", frame " + frame + ", " + what, x.frame(frame, what), wants[what]);
        }
    }

    private static void drum(String when, OneLevelStore x, int... wants) {
        for (int what = 0; what < wants.length; what++) {
            DUE.is(when + ", drum " + what, x.drum(what), wants[what]);
        }
    }

    private static void firstRead() {
        OneLevelStore x = sweepAt(1);
        frame("after tick 0", x, 0, 0, -1, -1, -1, -1, -1, -1);
        DUE.is("waits for 0", x.job(2, 3), 0);
        x.run(1);
        frame("after tick 1", x, 0, 2, 2, 0, 0, 0, 0, 0);
        drum("after tick 1", x, -1, -1, -1, -1, 1, 0, 0);
        DUE.is("queued", x.queued(0), 0);
        Code.runTo(x, 256);
        drum("before its sector", x, -1, -1, -1, -1, 1, 0, 0);
        x.run(1);
        drum("begun", x, 0, 0, 0, 31, 0, 0, 0);
        DUE.is("queued", x.queued(0), -1);
        Code.runTo(x, 288);
        drum("nearly there", x, 0, 0, 0, 0, 0, 0, 0);
        frame("nearly there", x, 0, 2);
        DUE.is("the place is its own still", x.place(0, 0), 2);
        x.run(1);
        frame("there", x, 0, 1, 2, 0, 0, 0, 0, 1);
        drum("there", x, -1, -1, -1, -1, 0, 1, 0);
        DUE.is("the place is free", x.place(0, 0), -1);
        DUE.is("waits for 1", x.job(2, 3), 1);
    }

    private static void firstChoices() {
        OneLevelStore x = sweepAt(290);
        frame("block 1 at once", x, 1, 1, 2, 1, 0, 0, 1, 0);
        frame("marked", x, 0, 1, 2, 0, 0, 0, 1, 0);
        DUE.is("none chosen", x.clock(3), 0);
        DUE.is("none chosen", x.chosen(0), -1);
        Code.runTo(x, 292);
        frame("block 2 at once, not used", x, 2, 1, 2, 2, 0, 0, 0, 1);
        frame("block 0 goes", x, 0, 3, 2, 0, 0, 0, 1, 0);
        DUE.is("chosen", x.chosen(0), 4096);
        DUE.is("chosen before", x.chosen(1), -1);
        DUE.is("how many", x.clock(3), 1);
        DUE.is("the job waits for it", x.job(2, 3), 0);
        DUE.is("queued", x.queued(0), 0);
    }

    private static void writesAndReads() {
        OneLevelStore x = sweepAt(321);
        drum("a write begun", x, 0, 2, 1, 31, 0, 1, 0);
        DUE.is("its place, job", x.place(2, 0), 2);
        DUE.is("its place, block", x.place(2, 1), 0);
        Code.runTo(x, 353);
        frame("the lowest one comes", x, 0, 2, 2, 0, 0, 0, 0, 0);
        frame("the next one goes", x, 1, 3, 2, 1, 0, 0, 1, 0);
        drum("two in the queue", x, -1, -1, -1, -1, 2, 1, 1);
        DUE.is("first", x.queued(0), 0);
        DUE.is("second", x.queued(1), 1);
        DUE.is("chosen", x.chosen(0), 4097);
        DUE.is("chosen before", x.chosen(1), 4096);
        Code.runTo(x, 385);
        drum("the write can begin", x, 1, 4, 1, 31, 1, 1, 1);
        DUE.is("the read can not", x.queued(0), 0);
        Code.runTo(x, 417);
        frame("written", x, 1, 0, -1);
        drum("no place of sector 5", x, -1, -1, -1, -1, 1, 1, 2);
        Code.runTo(x, 577);
        drum("the read begins", x, 0, 2, 0, 31, 0, 1, 2);
        Code.runTo(x, 609);
        DUE.is("done", x.job(2, 2), 2);
        DUE.is("place 2 is free", x.place(2, 0), -1);
    }

    private static void endOfSweep() {
        OneLevelStore x = sweepAt(641);
        DUE.is("chosen", x.chosen(0), 4096);
        drum("place 4 is taken", x, 0, 12, 1, 31, 0, 2, 2);
        Code.runTo(x, 673);
        frame("FRESH, so it stays", x, 1, 1, 2, 3, 0, 0, 0, 1);
        frame("goes for it", x, 2, 3, 2, 2, 0, 0, 1, 0);
        DUE.is("chosen", x.chosen(0), 4098);
        Code.runTo(x, 928);
        DUE.is("place 4", x.place(4, 1), 1);
        DUE.is("place 6", x.place(6, 1), 2);
        DUE.is("place 12", x.place(12, 1), 0);
        Code.runTo(x, 930);
        DUE.is("over", x.job(2, 8), 929);
        for (int i = 0; i < 64; i++) {
            DUE.is("place " + i, x.place(i, 0), -1);
        }
        for (int i = 0; i < 3; i++) {
            frame("all over", x, i, 0, -1, -1, -1, -1, -1, -1);
        }
        drum("all over", x, -1, -1, -1, -1, 0, 3, 4);
    }

    /** Block 1 is used by the 1st, 104th, 207th and 310th instruction. */
    private static void looks() {
        OneLevelStore x = new OneLevelStore(4);
        Code.load(x, 0, 0, Code.of(0324, 0, 0, 512), Code.of(0121, 1, 0, 99), Code.of(0203, 127, 1, 2),
            Code.jump(0));
        x.start(0, 0, 1000, 8);
        int before = 289;
        Code.runTo(x, before + 63);
        frame("after 63", x, 1, 1, 0, 1, 0, 0, 1, 0);
        DUE.is("looks", x.clock(5), 0);
        Code.runTo(x, before + 64);
        DUE.is("looks", x.clock(5), 1);
        frame("after 64", x, 1, 1, 0, 1, 0, 0, 0, 0);
        frame("after 64", x, 0, 1, 0, 0, 0, 0, 0, 0);
        Code.runTo(x, before + 127);
        frame("after 127", x, 1, 1, 0, 1, 0, 0, 1, 0);
        Code.runTo(x, before + 128);
        frame("after 128", x, 1, 1, 0, 1, 0, 0, 0, 0);
        Code.runTo(x, before + 192);
        frame("after 192", x, 1, 1, 0, 1, 1, 0, 0, 0);
        Code.runTo(x, before + 256);
        frame("after 256", x, 1, 1, 0, 1, 0, 1, 0, 0);
        Code.runTo(x, before + 320);
        frame("after 320", x, 1, 1, 0, 1, 0, 1, 0, 0);
        Code.runTo(x, before + 384);
        frame("after 384", x, 1, 1, 0, 1, 1, 1, 0, 0);
        DUE.is("looks", x.clock(5), 6);
    }

    private static void ruleOfIdleTimeBefore() {
        OneLevelStore x = Scenes.wantsZ(150);
        Code.runTo(x, 585);
        frame("X", x, 1, 1, 0, 1, 1, 0, 0, 0);
        frame("Y", x, 2, 1, 0, 2, 1, 1, 0, 0);
        Code.runTo(x, 587);
        DUE.is("Y, for its L", x.chosen(0), 2);
        frame("Y as it was", x, 2, 3, 0, 2, 1, 1, 0, 0);
        frame("Z", x, 3, 1, 0, 3, 0, 0, 1, 0);
    }

    private static void ruleOfLongIdleTime() {
        OneLevelStore x = Scenes.wantsZ(214);
        Code.runTo(x, 649);
        frame("X", x, 1, 1, 0, 1, 2, 0, 0, 0);
        frame("Y", x, 2, 1, 0, 2, 2, 1, 0, 0);
        Code.runTo(x, 651);
        DUE.is("X, for its t is above L + 1", x.chosen(0), 1);
        x = Scenes.wantsZ(300);
        Code.runTo(x, 735);
        frame("X", x, 1, 1, 0, 1, 3, 0, 0, 0);
        frame("Y", x, 2, 1, 0, 2, 3, 1, 0, 0);
        Code.runTo(x, 737);
        DUE.is("of two with the same t the lowest", x.chosen(0), 1);
    }

    /** Three jobs fill three frames; the first to come is FRESH, and goes at once: none else is IN USE. */
    private static void allFresh() {
        OneLevelStore x = new OneLevelStore(3);
        for (int job = 0; job < 3; job++) {
            Code.load(x, job, 0, Code.END);
            x.start(job, 0, 10, 1);
        }
        Code.runTo(x, 64);
        DUE.is("none to be chosen", x.clock(3), 0);
        DUE.is("queue", x.drum(4), 2);
        x.run(1);
        frame("FRESH, and GOING", x, 1, 3, 1, 0, 0, 0, 0, 1);
        DUE.is("chosen", x.chosen(0), 2048);
        DUE.is("so its job waits again", x.job(1, 0), 2);
        DUE.is("and did nothing", x.clock(1), 0);
        Code.runTo(x, 2000);
        for (int job = 0; job < 3; job++) {
            DUE.is("in the end", x.job(job, 0), 3);
        }
    }

    private static void jobsByNumber() {
        OneLevelStore x = new OneLevelStore(3);
        x.start(3, 0, 10, 1);
        x.start(1, 0, 10, 1);
        x.run(1);
        DUE.is("1 waits", x.job(1, 0), 2);
        DUE.is("3 is ready", x.job(3, 0), 1);
        x.run(1);
        DUE.is("1 goes on first", x.job(1, 8), 1);
        DUE.is("3 is ready", x.job(3, 0), 1);
        x.run(1);
        DUE.is("3 waits", x.job(3, 0), 2);
        x.run(1);
        DUE.is("3 fails", x.job(3, 8), 3);
        DUE.is("no tick was idle", x.clock(2), 0);
        x.run(1);
        DUE.is("now it is", x.clock(2), 1);
    }

    private static void queueSkips() {
        OneLevelStore x = new OneLevelStore(4);
        Code.load(x, 1, 0, Code.END);
        Code.load(x, 3, 0, Code.END);
        x.start(1, 0, 10, 1);
        x.start(3, 0, 10, 1);
        Code.runTo(x, 32);
        DUE.is("first", x.queued(0), 0);
        DUE.is("second", x.queued(1), 1);
        DUE.is("third", x.queued(2), -1);
        x.run(1);
        drum("the second begins", x, 1, 1, 0, 31, 1, 0, 0);
        DUE.is("the first stays", x.queued(0), 0);
        Code.runTo(x, 65);
        DUE.is("3 has ended", x.job(3, 8), 64);
        Code.runTo(x, 289);
        DUE.is("1 has ended", x.job(1, 8), 288);
    }

    private static void writeOfJobThatIsOver() {
        OneLevelStore x = Scenes.writesAtItsEnd(8);
        Code.runTo(x, 536);
        DUE.is("chosen", x.chosen(0), 1);
        drum("under way", x, 1, 0, 1, 8, 0, 1, 0);
        x.run(1);
        DUE.is("over", x.job(0, 8), 536);
        frame("goes on", x, 1, 3, 0, 1, 2, 0, 0, 0);
        frame("empty", x, 0, 0);
        frame("empty", x, 2, 0);
        DUE.is("its place", x.place(0, 1), 1);
        DUE.is("its word", x.word(0, 512), 0);
        DUE.yes("forget", x.forget(0));
        DUE.is("the same block anew", Code.load(x, 0, 512, Code.END), 1);
        DUE.is("at another place", x.place(1, 1), 1);
        DUE.yes("start", x.start(0, 512, 10, 1));
        x.run(2);
        frame("the new one comes", x, 0, 2, 0, 1);
        frame("the old one goes", x, 1, 3, 0, 1);
        Code.runTo(x, 545);
        frame("the old one is gone", x, 1, 0);
        DUE.is("and its place free", x.place(0, 0), -1);
        drum("the new one is under way", x, 0, 1, 0, 31, 0, 1, 1);
        Code.runTo(x, 577);
        DUE.is("the new one has ended", x.job(0, 8), 576);
        DUE.is("by its word", x.job(0, 0), 3);
        drum("all told", x, -1, -1, -1, -1, 0, 2, 1);
    }

    /** As in Scenes.writesAtItsEnd, but the job ends before its write can begin. */
    private static void queuedWriteOfJobThatIsOver() {
        OneLevelStore x = new OneLevelStore(3);
        Code.load(x, 0, 0, Code.of(0324, 0, 0, 512), Code.of(0121, 1, 0, 200), Code.of(0203, 127, 1, 2),
            Code.of(0324, 0, 0, 1024), Code.END);
        x.start(0, 0, 1000, 8);
        Code.runTo(x, 494);
        frame("goes", x, 1, 3, 0, 1);
        DUE.is("queue", x.drum(4), 1);
        x.run(1);
        DUE.is("over", x.job(0, 8), 494);
        frame("empty", x, 1, 0);
        DUE.is("queue", x.drum(4), 0);
        DUE.is("queued", x.queued(0), -1);
        Code.runTo(x, 600);
        DUE.is("no write", x.drum(6), 0);
        DUE.is("but chosen", x.clock(3), 1);
    }

    /**
     * Job 2 has done its 223 instructions by tick 287; job 0 wants the last frame in tick 289, so that block 1
     * of job 2 is CHOSEN, and ends in tick 290; job 1 has a frame in tick 292, in which job 2 fails.
     */
    private static void queueBehindWriteThatIsGone() {
        OneLevelStore x = new OneLevelStore(4);
        Code.load(x, 0, 0, Code.of(0324, 0, 0, 512), Code.END);
        Code.load(x, 2, 0, Code.of(0324, 0, 0, 512), Code.jump(1));
        Code.load(x, 1, 0, Code.END);
        x.start(0, 0, 10, 2);
        x.start(2, 0, 223, 2);
        Code.runTo(x, 291);
        DUE.is("0 has ended", x.job(0, 8), 290);
        DUE.is("2 has done all that it may", x.job(2, 2), 223);
        DUE.is("chosen", x.chosen(0), 4097);
        DUE.is("its write is queued", x.queued(0), 2);
        DUE.yes("start", x.start(1, 0, 10, 1));
        x.run(2);
        DUE.is("2 has failed", x.job(2, 8), 292);
        DUE.is("one is left", x.drum(4), 1);
        DUE.is("the read", x.queued(0), 0);
        frame("the read", x, 0, 2, 1, 0);
        frame("its write is gone", x, 2, 0);
        Code.runTo(x, 353);
        DUE.is("1 has ended", x.job(1, 8), 352);
        DUE.is("no write", x.drum(6), 0);
    }

    private static void manyChosen() {
        OneLevelStore x = new OneLevelStore(3);
        Code.load(x, 1, 0, Code.of(0324, 0, 1, 512), Code.of(0124, 1, 0, 512), Code.of(0127, 1, 0, 4095),
            Code.jump(0));
        x.start(1, 0, 1000000, 20);
        for (int i = 0; i < 60 && x.clock(3) < 70; i++) {
            x.run(1000);
        }
        DUE.yes("more than 64", x.clock(3) >= 70);
        DUE.yes("64 are kept", x.chosen(63) >= 2048);
        DUE.is("no more", x.chosen(64), -1);
        DUE.is("none", x.chosen(-1), -1);
    }

    private static void wrongInputs() {
        OneLevelStore x = sweepAt(300);
        DUE.is("frame -1", x.frame(-1, 0), -1);
        DUE.is("frame 3", x.frame(3, 0), -1);
        DUE.is("what -1", x.frame(0, -1), -1);
        DUE.is("what 7", x.frame(0, 7), -1);
        DUE.is("drum -1", x.drum(-1), -1);
        DUE.is("drum 7", x.drum(7), -1);
        DUE.is("queued -1", x.queued(-1), -1);
        DUE.is("queued MAX", x.queued(Integer.MAX_VALUE), -1);
        DUE.is("chosen MIN", x.chosen(Integer.MIN_VALUE), -1);
        DUE.is("printed MIN", x.printed(Integer.MIN_VALUE), 0);
        DUE.is("paper MAX", x.paper(0, Integer.MAX_VALUE), 0);
    }
}

/** PART 2 and the promises 12 to 16: frames, places, transfers and the rule, tick by tick. */
final class CoreAndDrumTest {
    private static final Due DUE = new Due();

    public static void main(String[] args) {
        firstRead();
        firstChoices();
        writesAndReads();
        endOfSweep();
        looks();
        queueSkips();
        DUE.end();
    }

    private static OneLevelStore sweepAt(int ticks) {
        OneLevelStore x = Scenes.sweeps();
        Code.runTo(x, ticks);
        return x;
    }

    private static void firstRead() {
        OneLevelStore x = sweepAt(1);
        DUE.frame("after tick 0", x, 0, 0, -1, -1, -1, -1, -1, -1);
        DUE.is("waits for 0", x.job(2, 3), 0);
        x.run(1);
        DUE.frame("after tick 1", x, 0, 2, 2, 0, 0, 0, 0, 0);
        DUE.drum("after tick 1", x, -1, -1, -1, -1, 1, 0, 0);
        DUE.is("queued", x.queued(0), 0);
        Code.runTo(x, 256);
        DUE.drum("before its sector", x, -1, -1, -1, -1, 1, 0, 0);
        x.run(1);
        DUE.drum("begun", x, 0, 0, 0, 31, 0, 0, 0);
        DUE.is("queued", x.queued(0), -1);
        Code.runTo(x, 288);
        DUE.drum("nearly there", x, 0, 0, 0, 0, 0, 0, 0);
        DUE.frame("nearly there", x, 0, 2);
        DUE.is("the place is its own still", x.place(0, 0), 2);
        x.run(1);
        DUE.frame("there", x, 0, 1, 2, 0, 0, 0, 0, 1);
        DUE.drum("there", x, -1, -1, -1, -1, 0, 1, 0);
        DUE.is("the place is free", x.place(0, 0), -1);
        DUE.is("waits for 1", x.job(2, 3), 1);
    }

    private static void firstChoices() {
        OneLevelStore x = sweepAt(290);
        DUE.frame("block 1 at once", x, 1, 1, 2, 1, 0, 0, 1, 0);
        DUE.frame("marked", x, 0, 1, 2, 0, 0, 0, 1, 0);
        DUE.is("none chosen", x.clock(3), 0);
        DUE.is("none chosen", x.chosen(0), -1);
        Code.runTo(x, 292);
        DUE.frame("block 2 at once, not used", x, 2, 1, 2, 2, 0, 0, 0, 1);
        DUE.frame("block 0 goes", x, 0, 3, 2, 0, 0, 0, 1, 0);
        DUE.is("chosen", x.chosen(0), 4096);
        DUE.is("chosen before", x.chosen(1), -1);
        DUE.is("how many", x.clock(3), 1);
        DUE.is("the job waits for it", x.job(2, 3), 0);
        DUE.is("queued", x.queued(0), 0);
    }

    private static void writesAndReads() {
        OneLevelStore x = sweepAt(321);
        DUE.drum("a write begun", x, 0, 2, 1, 31, 0, 1, 0);
        DUE.is("its place, job", x.place(2, 0), 2);
        DUE.is("its place, block", x.place(2, 1), 0);
        Code.runTo(x, 353);
        DUE.frame("the lowest one comes", x, 0, 2, 2, 0, 0, 0, 0, 0);
        DUE.frame("the next one goes", x, 1, 3, 2, 1, 0, 0, 1, 0);
        DUE.drum("two in the queue", x, -1, -1, -1, -1, 2, 1, 1);
        DUE.is("first", x.queued(0), 0);
        DUE.is("second", x.queued(1), 1);
        DUE.is("chosen", x.chosen(0), 4097);
        DUE.is("chosen before", x.chosen(1), 4096);
        Code.runTo(x, 385);
        DUE.drum("the write can begin", x, 1, 4, 1, 31, 1, 1, 1);
        DUE.is("the read can not", x.queued(0), 0);
        Code.runTo(x, 417);
        DUE.frame("written", x, 1, 0, -1);
        DUE.drum("no place of sector 5", x, -1, -1, -1, -1, 1, 1, 2);
        Code.runTo(x, 577);
        DUE.drum("the read begins", x, 0, 2, 0, 31, 0, 1, 2);
        Code.runTo(x, 609);
        DUE.is("done", x.job(2, 2), 2);
        DUE.is("place 2 is free", x.place(2, 0), -1);
    }

    private static void endOfSweep() {
        OneLevelStore x = sweepAt(641);
        DUE.is("chosen", x.chosen(0), 4096);
        DUE.drum("place 4 is taken", x, 0, 12, 1, 31, 0, 2, 2);
        Code.runTo(x, 673);
        DUE.frame("FRESH, so it stays", x, 1, 1, 2, 3, 0, 0, 0, 1);
        DUE.frame("goes for it", x, 2, 3, 2, 2, 0, 0, 1, 0);
        DUE.is("chosen", x.chosen(0), 4098);
        Code.runTo(x, 928);
        DUE.is("place 4", x.place(4, 1), 1);
        DUE.is("place 6", x.place(6, 1), 2);
        DUE.is("place 12", x.place(12, 1), 0);
        Code.runTo(x, 930);
        DUE.is("over", x.job(2, 8), 929);
        for (int i = 0; i < 64; i++) {
            DUE.is("place " + i, x.place(i, 0), -1);
        }
        for (int i = 0; i < 3; i++) {
            DUE.frame("all over", x, i, 0, -1, -1, -1, -1, -1, -1);
        }
        DUE.drum("all over", x, -1, -1, -1, -1, 0, 3, 4);
    }

    /** Block 1 is used by the 1st, 104th, 207th and 310th instruction. */
    private static void looks() {
        OneLevelStore x = new OneLevelStore(4);
        Code.load(x, 0, 0, Code.of(0324, 0, 0, 512), Code.of(0121, 1, 0, 99), Code.of(0203, 127, 1, 2),
            Code.jump(0));
        x.start(0, 0, 1000, 8);
        int before = 289;
        Code.runTo(x, before + 63);
        DUE.frame("after 63", x, 1, 1, 0, 1, 0, 0, 1, 0);
        DUE.is("looks", x.clock(5), 0);
        Code.runTo(x, before + 64);
        DUE.is("looks", x.clock(5), 1);
        DUE.frame("after 64", x, 1, 1, 0, 1, 0, 0, 0, 0);
        DUE.frame("after 64", x, 0, 1, 0, 0, 0, 0, 0, 0);
        Code.runTo(x, before + 127);
        DUE.frame("after 127", x, 1, 1, 0, 1, 0, 0, 1, 0);
        Code.runTo(x, before + 128);
        DUE.frame("after 128", x, 1, 1, 0, 1, 0, 0, 0, 0);
        Code.runTo(x, before + 192);
        DUE.frame("after 192", x, 1, 1, 0, 1, 1, 0, 0, 0);
        Code.runTo(x, before + 256);
        DUE.frame("after 256", x, 1, 1, 0, 1, 0, 1, 0, 0);
        Code.runTo(x, before + 320);
        DUE.frame("after 320", x, 1, 1, 0, 1, 0, 1, 0, 0);
        Code.runTo(x, before + 384);
        DUE.frame("after 384", x, 1, 1, 0, 1, 1, 1, 0, 0);
        DUE.is("looks", x.clock(5), 6);
    }

    private static void queueSkips() {
        OneLevelStore x = new OneLevelStore(4);
        Code.load(x, 1, 0, Code.END);
        Code.load(x, 3, 0, Code.END);
        x.start(1, 0, 10, 1);
        x.start(3, 0, 10, 1);
        Code.runTo(x, 32);
        DUE.is("first", x.queued(0), 0);
        DUE.is("second", x.queued(1), 1);
        DUE.is("third", x.queued(2), -1);
        x.run(1);
        DUE.drum("the second begins", x, 1, 1, 0, 31, 1, 0, 0);
        DUE.is("the first stays", x.queued(0), 0);
        Code.runTo(x, 65);
        DUE.is("3 has ended", x.job(3, 8), 64);
        Code.runTo(x, 289);
        DUE.is("1 has ended", x.job(1, 8), 288);
    }
}

/** PART 2, step 1 of a tick: where transfers END and begin, sectors, and places. One test a sentence. */
final class TransferEdgeTest {
    private static final Due DUE = new Due();

    public static void main(String[] args) {
        transfersAtTicksDivisibleBy32();
        sectorsGoRound();
        readQueuedInItsOwnTickIsLate();
        oneEndsAndOneBegins();
        firstOfTwoThatCanBegin();
        firstThatCanNotBeginStays();
        noneCanBegin();
        writeToLowestPlace();
        writeWithoutPlaceOfSector();
        writeInFullDrum();
        endOfRead();
        placeOfRead();
        idleTimesAreGoneAfterRead();
        DUE.end();
    }

    private static void transfersAtTicksDivisibleBy32() {
        DUE.about("When n is divisible by 32: the TRANSFER under way ENDS. Then the first one begins");
        OneLevelStore x = Lone.begun(10, 1, Code.END);
        Code.runTo(x, 256);
        DUE.drum("before tick 256", x, -1, -1, -1, -1, 1, 0, 0);
        x.run(1);
        DUE.drum("tick 256", x, 0, 0, 0, 31, 0, 0, 0);
        Code.runTo(x, 288);
        DUE.drum("before tick 288", x, 0, 0, 0, 0, 0, 0, 0);
        DUE.frame("before tick 288", x, 0, 2, 0, 0, 0, 0, 0, 0);
        x.run(1);
        DUE.drum("tick 288", x, -1, -1, -1, -1, 0, 1, 0);
        DUE.is("the job goes on in it", x.job(0, 8), 288);
    }

    private static void sectorsGoRound() {
        DUE.about("place p is of SECTOR p mod 8; a READ whose place is of the SECTOR n / 32 mod 8");
        int[][] due = {{0, 256}, {1, 32}, {7, 224}, {8, 256}, {9, 32}, {56, 256}, {62, 192}, {63, 224}};
        for (int[] one : due) {
            OneLevelStore x = new OneLevelStore(3);
            Scenes.fill(x, one[0]);
            Code.load(x, 0, 0, Code.END);
            DUE.is("its place", x.place(one[0], 0), 0);
            DUE.yes("begins", x.start(0, 0, 5, 1));
            Code.runTo(x, one[1]);
            DUE.is("place " + one[0] + " before its tick", x.drum(1), -1);
            x.run(1);
            DUE.is("place " + one[0] + " in its tick", x.drum(1), one[0]);
            Code.runTo(x, one[1] + 33);
            DUE.is("place " + one[0] + ", the job", x.job(0, 8), one[1] + 32);
        }
    }

    private static OneLevelStore atPlaceOneFrom(int tick) {
        OneLevelStore x = new OneLevelStore(3);
        Scenes.fill(x, 1);
        Code.load(x, 0, 0, Code.END);
        x.run(tick);
        x.start(0, 0, 5, 1);
        return x;
    }

    private static void readQueuedInItsOwnTickIsLate() {
        DUE.about("A TICK goes so: 1. Then the first one of the QUEUE begins. 2. a READ of it comes behind the QUEUE");
        OneLevelStore x = atPlaceOneFrom(30);
        Code.runTo(x, 33);
        DUE.is("queued in tick 31, begins in 32", x.drum(1), 1);
        x = atPlaceOneFrom(31);
        Code.runTo(x, 33);
        DUE.is("queued in tick 32", x.queued(0), 0);
        DUE.is("is too late", x.drum(1), -1);
        Code.runTo(x, 288);
        DUE.is("till the sector comes again", x.drum(1), -1);
        x.run(1);
        DUE.is("in tick 288", x.drum(1), 1);
    }

    private static void oneEndsAndOneBegins() {
        DUE.about("the TRANSFER under way ENDS. Then the first one of the QUEUE that can begin begins");
        OneLevelStore x = new OneLevelStore(4);
        Scenes.fill(x, 1);
        Code.load(x, 0, 0, Code.jump(0));
        Code.load(x, 1, 0, Code.END);
        x.start(0, 0, 500, 1);
        x.start(1, 0, 5, 1);
        Code.runTo(x, 64);
        DUE.drum("the first is under way", x, 0, 1, 0, 0, 1, 0, 0);
        x.run(1);
        DUE.drum("it has ended, the second is", x, 1, 2, 0, 31, 0, 1, 0);
    }

    /** Job 0 lies at place 8, job 1 at place 0: both of sector 0. */
    private static void firstOfTwoThatCanBegin() {
        DUE.about("Then the first one of the QUEUE that can begin begins, and is under way");
        OneLevelStore x = new OneLevelStore(4);
        Code.load(x, 1, 0, Code.END);
        Scenes.fill(x, 7);
        Code.load(x, 0, 0, Code.END);
        x.start(0, 0, 5, 1);
        x.start(1, 0, 5, 1);
        Code.runTo(x, 257);
        DUE.drum("the first in the QUEUE", x, 0, 8, 0, 31, 1, 0, 0);
        DUE.is("the other", x.queued(0), 1);
        Code.runTo(x, 512);
        DUE.drum("no other sector does", x, -1, -1, -1, -1, 1, 1, 0);
        x.run(1);
        DUE.drum("the other", x, 1, 0, 0, 31, 0, 1, 0);
    }

    private static void firstThatCanNotBeginStays() {
        DUE.about("the QUEUE has those that are to come, in order");
        OneLevelStore x = new OneLevelStore(5);
        for (int job = 0; job < 3; job++) {
            Code.load(x, job, 0, Code.END);
            x.start(job, 0, 5, 1);
        }
        Code.runTo(x, 4);
        DUE.is("first", x.queued(0), 0);
        DUE.is("second", x.queued(1), 1);
        DUE.is("third", x.queued(2), 2);
        DUE.is("no more", x.queued(3), -1);
        Code.runTo(x, 33);
        DUE.is("the second has begun", x.drum(0), 1);
        DUE.is("first", x.queued(0), 0);
        DUE.is("then the third", x.queued(1), 2);
        DUE.is("no more", x.queued(2), -1);
        Code.runTo(x, 65);
        DUE.is("the third has begun", x.drum(0), 2);
        DUE.is("first", x.queued(0), 0);
        DUE.is("no more", x.queued(1), -1);
    }

    private static void noneCanBegin() {
        DUE.about("the first one of the QUEUE that can begin begins (none can)");
        OneLevelStore x = Lone.begun(5, 1, Code.END);
        for (int n = 32; n <= 224; n += 32) {
            Code.runTo(x, n + 1);
            DUE.drum("tick " + n, x, -1, -1, -1, -1, 1, 0, 0);
            DUE.is("the QUEUE", x.queued(0), 0);
        }
    }

    private static void writeToLowestPlace() {
        DUE.about("a WRITE when a place of that SECTOR is free: the lowest one is its own then");
        OneLevelStore x = Scenes.sweeps();
        Code.runTo(x, 320);
        DUE.is("none before", x.place(2, 0), -1);
        x.run(1);
        DUE.drum("the lowest of sector 2", x, 0, 2, 1, 31, 0, 1, 0);
        DUE.is("its own, the job", x.place(2, 0), 2);
        DUE.is("its own, the block", x.place(2, 1), 0);
        Code.runTo(x, 641);
        DUE.is("place 4 is taken", x.place(4, 0), 2);
        DUE.drum("so the next of sector 4", x, 0, 12, 1, 31, 0, 2, 2);
    }

    /** 60 blocks of job 3 at the places 1 to 60, so that 0, 61, 62 and 63 are left. */
    private static OneLevelStore nearlyFull() {
        OneLevelStore x = new OneLevelStore(3);
        Code.load(x, 0, 0, Code.of(0324, 0, 0, 512), Code.of(0324, 0, 0, 1024), Code.END);
        Scenes.fill(x, 60);
        x.start(0, 0, 100, 4);
        return x;
    }

    private static void writeWithoutPlaceOfSector() {
        DUE.about("a WRITE when a place of that SECTOR is free");
        OneLevelStore x = nearlyFull();
        Code.runTo(x, 292);
        DUE.frame("block 0 goes", x, 0, 3, 0, 0);
        for (int n = 320; n <= 384; n += 32) {
            Code.runTo(x, n + 1);
            DUE.drum("no place in tick " + n, x, -1, -1, -1, -1, 1, 1, 0);
        }
        Code.runTo(x, 417);
        DUE.drum("sector 5", x, 0, 61, 1, 31, 0, 1, 0);
    }

    /** All 64 places are taken at first; the three blocks that were read leave the places 0, 1 and 2. */
    private static void writeInFullDrum() {
        DUE.about("THE DRUM has 64 PLACES, each for one block");
        OneLevelStore x = new OneLevelStore(3);
        Code.load(x, 0, 0, Code.of(0324, 0, 0, 512), Code.of(0324, 0, 0, 1024), Code.END);
        Code.load(x, 0, 512, 1);
        Code.load(x, 0, 1024, 1);
        Scenes.fill(x, 61);
        DUE.is("the last", x.place(63, 0), 3);
        DUE.is("its block", x.place(63, 1), 60);
        DUE.yes("begins", x.start(0, 0, 100, 3));
        Code.runTo(x, 577);
        DUE.is("block 0 and block 1 were read", x.drum(5), 2);
        DUE.is("place 0 is free", x.place(0, 0), -1);
        DUE.is("place 1 is free", x.place(1, 0), -1);
        DUE.is("place 2 is not", x.place(2, 0), 0);
        Code.runTo(x, 769);
        DUE.drum("the lowest frame goes to place 0", x, 0, 0, 1, 31, 1, 2, 0);
    }

    private static void endOfRead() {
        DUE.about("a READ: the frame is IN USE, t and L 0, no MARK, FRESH; the place is free");
        OneLevelStore x = Scenes.comesBackUnused();
        Code.runTo(x, 384);
        DUE.frame("it comes", x, 0, 2, 1, 0, 0, 0, 0, 0);
        DUE.is("its place", x.place(3, 0), 1);
        x.run(1);
        DUE.frame("it is there", x, 0, 1, 1, 0, 0, 0, 0, 1);
        DUE.is("the place is free", x.place(3, 0), -1);
        DUE.is("its job is ready", x.job(1, 0), 1);
        DUE.is("but has done no more", x.job(1, 2), 1);
    }

    private static void placeOfRead() {
        DUE.about("the place is free (when the READ ENDS)");
        OneLevelStore x = Lone.begun(5, 1, Code.jump(0));
        Code.runTo(x, 288);
        DUE.is("not before", x.place(0, 0), 0);
        DUE.is("its block", x.place(0, 1), 0);
        x.run(1);
        DUE.is("then", x.place(0, 0), -1);
    }

    /**
     * In tick 547 Z has the last frame, and Y is CHOSEN, for its L; the job wants Y again in tick 548. It is written in
     * the ticks 576 to 607, then block 0 goes for it; it is read in the ticks 832 to 863.
     */
    private static void idleTimesAreGoneAfterRead() {
        DUE.about("a READ: the frame is IN USE, t and L 0");
        OneLevelStore x = Schedule.begun(4, "XY", "X", "XY", "X", "ZY");
        Code.runTo(x, Schedule.tickOf(257, 3) + 1);
        DUE.frame("Y goes", x, 2, 3, 0, 2, 1, 1, 0, 0);
        x.run(1);
        DUE.is("Y is wanted again", x.job(0, 3), 2);
        Code.runTo(x, 609);
        DUE.frame("Y comes", x, 2, 2, 0, 2, 0, 0, 0, 0);
        Code.runTo(x, 865);
        DUE.frame("Y is there", x, 2, 1, 0, 2, 0, 0, 0, 1);
        DUE.is("the job waits for block 0 now", x.job(0, 3), 0);
    }
}

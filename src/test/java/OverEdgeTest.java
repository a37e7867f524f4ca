/** PART 2, a job that is over: what is EMPTY, gone and free then, and a TRANSFER of it that is under way. */
final class OverEdgeTest {
    private static final Due DUE = new Due();

    public static void main(String[] args) {
        framesAreEmpty();
        framesAreEmptyByFailing();
        queuedWriteIsGone();
        queueBehindIt();
        placesAreFree();
        lostBlocksNeverWereAnywhere();
        placeOfEndedWriteIsFree();
        underWayTillItEnds();
        endsAsOfJobThatIsOver();
        numberBegunAnew();
        sameBlockAnew();
        sameBlockLoadedAnew();
        overOnceMore();
        rightsAreFree();
        whatStays();
        DUE.end();
    }

    /** Job 1 goes round in frame 1; job 0 uses its blocks 0, 1, 2 in the frames 0, 2, 3, in the ticks 288 to 292. */
    private static OneLevelStore beside(long last) {
        OneLevelStore x = new OneLevelStore(6);
        Code.load(x, 0, 0, Code.of(0324, 0, 0, 512), Code.of(0324, 0, 0, 1024), last);
        Code.load(x, 1, 0, Code.jump(0));
        x.start(0, 0, 100, 3);
        x.start(1, 0, 1000, 1);
        Code.runTo(x, 292);
        DUE.frame("before", x, 0, 1, 0, 0);
        DUE.frame("before", x, 2, 1, 0, 1);
        DUE.frame("before", x, 3, 1, 0, 2);
        return x;
    }

    private static void besideIsOver(OneLevelStore x, int state) {
        x.run(1);
        DUE.is("over", x.job(0, 0), state);
        DUE.frame("EMPTY", x, 0, 0, -1, -1, -1, -1, -1, -1);
        DUE.frame("that of another job is not", x, 1, 1, 1, 0);
        DUE.frame("EMPTY", x, 2, 0, -1, -1, -1, -1, -1, -1);
        DUE.frame("EMPTY", x, 3, 0, -1, -1, -1, -1, -1, -1);
        x.run(5);
        DUE.is("another job goes on", x.job(1, 0), 1);
    }

    private static void framesAreEmpty() {
        DUE.about("A job that is over (ENDED): its frames IN USE are EMPTY");
        besideIsOver(beside(Code.END), 3);
    }

    private static void framesAreEmptyByFailing() {
        DUE.about("A job that is over (FAILED): its frames IN USE are EMPTY");
        besideIsOver(beside(0), 4);
    }

    /** As Scenes.writesAtItsEnd, but the job ends before its WRITE can begin. */
    private static void queuedWriteIsGone() {
        DUE.about("TRANSFERS of it in the QUEUE are gone, their frames EMPTY");
        OneLevelStore x = new OneLevelStore(3);
        Code.load(x, 0, 0, Code.of(0324, 0, 0, 512), Code.of(0121, 1, 0, 200), Code.of(0203, 127, 1, 2),
            Code.of(0324, 0, 0, 1024), Code.END);
        x.start(0, 0, 1000, 8);
        Code.runTo(x, 494);
        DUE.frame("it goes", x, 1, 3, 0, 1);
        DUE.is("the QUEUE", x.drum(4), 1);
        x.run(1);
        DUE.is("over", x.job(0, 8), 494);
        DUE.frame("EMPTY", x, 1, 0, -1);
        DUE.is("the QUEUE", x.drum(4), 0);
        DUE.is("none in it", x.queued(0), -1);
        Code.runTo(x, 600);
        DUE.drum("no WRITE", x, -1, -1, -1, -1, 0, 1, 0);
        DUE.is("but one was CHOSEN", x.clock(3), 1);
        DUE.is("which is told still", x.chosen(0), 1);
    }

    /**
     * Job 2 has done its 223 instructions by tick 287; job 0 wants the last frame in tick 289, so that block 1 of job 2
     * is CHOSEN, and ends in tick 290; job 1 has a frame in tick 292, in which job 2 fails.
     */
    private static void queueBehindIt() {
        DUE.about("TRANSFERS of it in the QUEUE are gone (those of others are not)");
        OneLevelStore x = new OneLevelStore(4);
        Code.load(x, 0, 0, Code.of(0324, 0, 0, 512), Code.END);
        Code.load(x, 2, 0, Code.of(0324, 0, 0, 512), Code.jump(1));
        Code.load(x, 1, 0, Code.END);
        x.start(0, 0, 10, 2);
        x.start(2, 0, 223, 2);
        Code.runTo(x, 291);
        DUE.is("0 has ended", x.job(0, 8), 290);
        DUE.is("2 has done all that it may", x.job(2, 2), 223);
        DUE.is("its block is CHOSEN", x.chosen(0), 4097);
        DUE.is("its WRITE is first", x.queued(0), 2);
        x.start(1, 0, 10, 1);
        x.run(2);
        DUE.is("2 has failed", x.job(2, 8), 292);
        DUE.is("one is left", x.drum(4), 1);
        DUE.is("the READ of job 1", x.queued(0), 0);
        DUE.frame("its frame", x, 0, 2, 1, 0);
        DUE.frame("that of the WRITE", x, 2, 0);
        Code.runTo(x, 353);
        DUE.is("1 has ended", x.job(1, 8), 352);
        DUE.is("no WRITE", x.drum(6), 0);
    }

    /** The blocks 0 to 4 lie at the places 2, 1, 0, 3, 4, in turn of job 0 and job 3; job 0 reads block 0, and ends. */
    private static OneLevelStore endsWithUnreadBlocks() {
        OneLevelStore x = new OneLevelStore(3);
        int[] blocks = {2, 1, 0, 3, 4};
        for (int block : blocks) {
            Code.load(x, block % 2 == 0 ? 0 : 3, 512 * block, Code.END);
        }
        x.start(0, 0, 10, 3);
        Code.runTo(x, 96);
        return x;
    }

    private static void placesAreFree() {
        DUE.about("its places are free");
        OneLevelStore x = endsWithUnreadBlocks();
        int[] before = {0, 3, 0, 3, 0};
        for (int i = 0; i < 5; i++) {
            DUE.is("place " + i + " before", x.place(i, 0), before[i]);
        }
        x.run(1);
        DUE.is("over", x.job(0, 8), 96);
        int[] after = {-1, 3, -1, 3, -1};
        for (int i = 0; i < 5; i++) {
            DUE.is("place " + i, x.place(i, 0), after[i]);
            DUE.is("place " + i + ", block", x.place(i, 1), after[i] < 0 ? -1 : i);
        }
    }

    private static void lostBlocksNeverWereAnywhere() {
        DUE.about("its places are free (of a block that never was anywhere the frame is IN USE at once)");
        OneLevelStore x = endsWithUnreadBlocks();
        x.run(1);
        DUE.yes("forgotten", x.forget(0));
        DUE.is("a word of before", x.word(0, 1024), 0);
        for (int i = 0; i < 3; i++) {
            DUE.yes("begins at block 2 with nothing loaded", x.start(0, 1024, 10, 1));
            x.run(2);
            DUE.is("which is there at once, all 0: so it fails", x.job(0, 1), 1);
            DUE.drum("no READ", x, -1, -1, -1, -1, 0, 1, 0);
            x.forget(0);
        }
    }

    /** Block 1 was written to place 0 in the ticks 512 to 543, and no other transfer came; the job ends in tick 556. */
    private static void placeOfEndedWriteIsFree() {
        DUE.about("its places are free (also that of the TRANSFER that ENDED last)");
        OneLevelStore x = Scenes.writesBeforeItsEnd(8, 60);
        Code.runTo(x, 556);
        DUE.drum("none is under way", x, -1, -1, -1, -1, 0, 1, 1);
        DUE.is("its place", x.place(0, 1), 1);
        x.run(1);
        DUE.is("over", x.job(0, 8), 556);
        DUE.is("free", x.place(0, 0), -1);
    }

    private static void underWayTillItEnds() {
        DUE.about("(but that of a TRANSFER under way, till that ENDS");
        OneLevelStore x = Scenes.writesAtItsEnd(8);
        Code.runTo(x, 536);
        DUE.drum("under way", x, 1, 0, 1, 8, 0, 1, 0);
        x.run(1);
        DUE.is("over", x.job(0, 8), 536);
        DUE.frame("its other frames", x, 0, 0);
        DUE.frame("its other frames", x, 2, 0);
        for (int tick = 537; tick < 544; tick++) {
            DUE.frame("the frame stays", x, 1, 3, 0, 1, 2, 0, 0, 0);
            DUE.is("the place stays", x.place(0, 0), 0);
            DUE.is("the place's block", x.place(0, 1), 1);
            DUE.drum("it goes on", x, 1, 0, 1, 544 - tick, 0, 1, 0);
            x.run(1);
        }
        DUE.drum("to the last", x, 1, 0, 1, 0, 0, 1, 0);
    }

    private static void endsAsOfJobThatIsOver() {
        DUE.about("(Of a job that is over: the frame is EMPTY, the place free.)");
        OneLevelStore x = Scenes.writesAtItsEnd(8);
        Code.runTo(x, 545);
        DUE.frame("the frame", x, 1, 0, -1, -1, -1, -1, -1, -1);
        DUE.is("the place", x.place(0, 0), -1);
        DUE.is("the place", x.place(0, 1), -1);
        DUE.drum("it counts", x, -1, -1, -1, -1, 0, 1, 1);
    }

    /** Its number begins anew in tick 537, with a block at place 1, and waits for that while the WRITE ENDS. */
    private static void numberBegunAnew() {
        DUE.about("it ENDS as that of a job that is over, also when its number has begun anew");
        OneLevelStore x = Scenes.writesAtItsEnd(8);
        Code.runTo(x, 537);
        DUE.yes("forgotten", x.forget(0));
        Code.load(x, 0, 0, Code.END);
        DUE.is("at the lowest free place", x.place(1, 1), 0);
        DUE.yes("begins anew", x.start(0, 0, 10, 1));
        Code.runTo(x, 544);
        DUE.frame("the old one is GOING", x, 1, 3, 0, 1);
        DUE.is("its place", x.place(0, 1), 1);
        x.run(1);
        DUE.frame("EMPTY", x, 1, 0);
        DUE.is("free", x.place(0, 0), -1);
        DUE.drum("it counts, and the new one's READ begins", x, 0, 1, 0, 31, 0, 1, 1);
        Code.runTo(x, 577);
        DUE.is("the new one has ended", x.job(0, 8), 576);
    }

    private static void sameBlockAnew() {
        DUE.about("whose BLOCKS have nothing to do with it");
        OneLevelStore x = Scenes.writesAtItsEnd(8);
        Code.runTo(x, 537);
        x.forget(0);
        DUE.yes("begins at block 1, which is GOING", x.start(0, 512, 10, 1));
        x.run(1);
        DUE.job("it waits for its own", x, 0, 2, 0, 0, 1, 1, 0, 0, 0, -1);
        x.run(1);
        DUE.is("which is there at once, all 0: so it fails", x.job(0, 1), 1);
        DUE.is("in tick 538", x.job(0, 8), 538);
        DUE.frame("the old one is GOING", x, 1, 3, 0, 1);
    }

    private static void sameBlockLoadedAnew() {
        DUE.about("whose BLOCKS have nothing to do with it (loaded ones)");
        OneLevelStore x = Scenes.writesAtItsEnd(8);
        Code.runTo(x, 537);
        x.forget(0);
        DUE.is("the same block", Code.load(x, 0, 512, Code.of(0121, 5, 0, 9), Code.END), 1);
        DUE.is("at another place", x.place(1, 1), 1);
        DUE.is("its word", x.word(0, 513), Code.END << 16 >> 16);
        x.start(0, 512, 10, 1);
        x.run(2);
        DUE.frame("the new one comes", x, 0, 2, 0, 1);
        DUE.frame("the old one goes", x, 1, 3, 0, 1);
        Code.runTo(x, 577);
        DUE.frame("the new one is there", x, 0, 1, 0, 1);
        DUE.is("with its own words", x.register(0, 5), 9);
        x.run(1);
        DUE.is("and ends", x.job(0, 8), 577);
        DUE.drum("both have ended", x, -1, -1, -1, -1, 0, 2, 1);
    }

    /** The number begins anew and fails at once, twice, before the WRITE of the first one ENDS. */
    private static void overOnceMore() {
        DUE.about("(but that of a TRANSFER under way, till that ENDS (the number is over once more before)");
        OneLevelStore x = Scenes.writesAtItsEnd(8);
        Code.runTo(x, 537);
        for (int i = 0; i < 2; i++) {
            DUE.yes("forgotten", x.forget(0));
            Code.load(x, 0, 1024, 5);
            x.start(0, -1, 10, 1);
            x.run(1);
            DUE.is("over", x.job(0, 8), 537 + i);
            DUE.is("its own place is free", x.place(1, 0), -1);
            DUE.is("that of the WRITE is not", x.place(0, 0), 0);
            DUE.frame("nor is the frame EMPTY", x, 1, 3, 0, 1);
        }
        Code.runTo(x, 545);
        DUE.is("then it is free", x.place(0, 0), -1);
        DUE.frame("then it is EMPTY", x, 1, 0);
        DUE.drum("it counts once", x, -1, -1, -1, -1, 0, 1, 1);
    }

    private static void rightsAreFree() {
        DUE.about("those that the others which are not over may have");
        OneLevelStore x = new OneLevelStore(3);
        x.start(0, -1, 5, 64);
        DUE.no("64 are another's", x.start(1, 0, 5, 1));
        x.run(1);
        DUE.is("it is over", x.job(0, 0), 4);
        DUE.yes("64 are free", x.start(1, 0, 5, 64));
    }

    private static void whatStays() {
        DUE.about("A job that is over: (nothing is told of its TAPE, PAPER, registers: they stay)");
        OneLevelStore x = new OneLevelStore(4);
        Code.load(x, 0, 0, Code.of(01050, 0, 0, 0), Code.of(01066, 0, 0, 0), Code.of(0121, 5, 0, -7),
            Code.of(0172, 5, 0, 0), Code.of(0113, 5, 0, 512), Code.END);
        Code.tape(x, 0, 31, 32, 33);
        x.start(0, 0, 10, 2);
        Code.runTo(x, 295);
        DUE.job("at its end", x, 0, 3, 0, 6, -1, 0, 2, 1, -1, 294);
        DUE.is("A", x.accumulator(0), 31);
        DUE.is("B5", x.register(0, 5), -7);
        DUE.is("CONTROL", x.register(0, 127), 6);
        DUE.is("its paper", x.paper(0, 0), 31);
        DUE.is("its words are 0", x.word(0, 0), 0);
        DUE.is("its words are 0", x.word(0, 512), 0);
        Code.runTo(x, 500);
        DUE.job("later", x, 0, 3, 0, 6, -1, 0, 2, 1, -1, 294);
    }
}

/** Promises 1 to 3: the edges of what they take; where a call refuses, a twin tells that nothing was done. */
final class LoadEdgeTest {
    private static final int MIN = Integer.MIN_VALUE;
    private static final int MAX = Integer.MAX_VALUE;
    private static final Due DUE = new Due();
    private static final Refusals REFUSALS = new Refusals(DUE);

    public static void main(String[] args) {
        fewFrames();
        manyFrames();
        emptyAtFirst();
        lowest48Bits();
        trayIsFull();
        loadOfNothing();
        loadEmptiesTheTray();
        loadAtLowestFreePlace();
        loadInTheirOrder();
        loadNoSuchJob();
        loadHasBegun();
        loadAddressIsNone();
        loadNotAllAtAddresses();
        loadTooManyOfItsOwn();
        loadTooManyWithOthersNotBegun();
        loadTooManyWithOthersBegun();
        loadCountsNewBlocksAlone();
        loadWithoutPlaces();
        DUE.end();
    }

    private static void frames(int asked, int had) {
        OneLevelStore x = new OneLevelStore(asked);
        for (int i = 0; i < had; i++) {
            DUE.is(asked + " frames, frame " + i, x.frame(i, 0), 0);
        }
        DUE.is(asked + " frames, one more", x.frame(had, 0), -1);
    }

    private static void fewFrames() {
        DUE.about("A core of so many frames (below 3: 3)");
        frames(MIN, 3);
        frames(-1, 3);
        frames(0, 3);
        frames(2, 3);
        frames(3, 3);
        frames(4, 4);
    }

    private static void manyFrames() {
        DUE.about("A core of so many frames (above 16: 16)");
        frames(15, 15);
        frames(16, 16);
        frames(17, 16);
        frames(MAX, 16);
    }

    private static void emptyAtFirst() {
        DUE.about("an empty drum, an empty tray");
        OneLevelStore x = new OneLevelStore(5);
        for (int i = 0; i < 64; i++) {
            DUE.is("place " + i, x.place(i, 0), -1);
        }
        DUE.drum("at first", x, -1, -1, -1, -1, 0, 0, 0);
        DUE.is("the QUEUE", x.queued(0), -1);
        DUE.is("CHOSEN", x.chosen(0), -1);
        DUE.is("printed", x.printed(0), 0);
        for (int i = 0; i <= 5; i++) {
            DUE.is("clock " + i, x.clock(i), 0);
        }
        DUE.is("nothing on the tray", x.tape(0), 0);
        DUE.is("the first key", x.key(0), 1);
    }

    private static void lowest48Bits() {
        DUE.about("A word (its lowest 48 bits) comes behind those on the TRAY: how many there are");
        long[] keyed = {Code.GREATEST_WORD, Code.GREATEST_WORD + 1, 1L << 48, (1L << 48) - 1, Code.LEAST_WORD,
            Code.LEAST_WORD - 1, Long.MAX_VALUE, Long.MIN_VALUE, -1, Long.MIN_VALUE + 9};
        long[] due = {Code.GREATEST_WORD, Code.LEAST_WORD, 0, -1, Code.LEAST_WORD, Code.GREATEST_WORD, -1, 0, -1, 9};
        OneLevelStore x = new OneLevelStore(3);
        for (int i = 0; i < keyed.length; i++) {
            DUE.is("key " + i, x.key(keyed[i]), i + 1);
        }
        x.load(0, 0);
        for (int i = 0; i < due.length; i++) {
            DUE.is("word " + i, x.word(0, i), due[i]);
        }
    }

    /** 1,000 keys are more calls than an object is promised for: this edge lies beyond the 512th. */
    private static void trayIsFull() {
        DUE.about("NONE when there would be more than 1,000");
        OneLevelStore x = new OneLevelStore(3);
        for (int i = 1; i <= 1000; i++) {
            DUE.is("key", x.key(i), i);
        }
        DUE.is("key 1001", x.key(5), -1);
        DUE.is("key 1001 again", x.key(5), -1);
        DUE.is("three blocks", x.load(0, 511), 3);
        DUE.is("the first", x.word(0, 511), 1);
        DUE.is("the last", x.word(0, 1510), 1000);
        DUE.is("none behind it", x.word(0, 1511), 0);
        DUE.is("the tray is empty then", x.key(5), 1);
    }

    private static void loadOfNothing() {
        DUE.about("The words on the TRAY come into the STORE: how many BLOCKS it has (the tray is empty)");
        OneLevelStore x = new OneLevelStore(3);
        DUE.is("none", x.load(0, 0), 0);
        DUE.is("none", x.load(0, 1048575), 0);
        DUE.is("no place", x.place(0, 0), -1);
        Code.load(x, 0, 511, 1, 2);
        DUE.is("two, as before", x.load(0, 5000), 2);
        DUE.is("no place", x.place(2, 0), -1);
        DUE.is("its address is none", x.load(0, 1048576), -1);
        x = Scenes.ownBlocks(64);
        DUE.is("no more than 64, in a block that it has not", x.load(3, 600), 64);
        DUE.is("nor of another job, which has none", x.load(0, 600), 0);
    }

    private static void loadEmptiesTheTray() {
        DUE.about("The words on the TRAY (which is empty then)");
        OneLevelStore x = new OneLevelStore(3);
        Code.load(x, 0, 0, 1, 2);
        DUE.is("load", x.key(3), 1);
        x.load(0, 100);
        DUE.is("the word", x.word(0, 100), 3);
        DUE.is("none behind it", x.word(0, 101), 0);
        Code.tape(x, 0, 1, 2);
        DUE.is("tape", x.key(3), 1);
    }

    /** Job 0 has read place 0 by tick 288, so that it is free, and the places 1 to 3 are not. */
    private static void loadAtLowestFreePlace() {
        DUE.about("each new one at the lowest free place");
        OneLevelStore x = Lone.begun(1000, 1, Code.jump(0));
        Code.load(x, 3, 511, 1, 2);
        Code.load(x, 2, 0, 1);
        Code.runTo(x, 289);
        DUE.is("place 0 is free", x.place(0, 0), -1);
        DUE.is("two more", Code.load(x, 1, 2047, 1, 2), 2);
        DUE.is("the first", x.place(0, 0), 1);
        DUE.is("its block", x.place(0, 1), 3);
        DUE.is("the second", x.place(4, 0), 1);
        DUE.is("its block", x.place(4, 1), 4);
        DUE.is("no more", x.place(5, 0), -1);
    }

    private static void loadInTheirOrder() {
        DUE.about("They lie on the drum: each new one, in their order");
        OneLevelStore x = new OneLevelStore(3);
        Code.load(x, 0, 1024, 5);
        for (int i = 0; i < 400; i++) {
            x.key(i);
        }
        DUE.is("from block 1 on", x.load(0, 1023), 2);
        DUE.is("place 0", x.place(0, 1), 2);
        DUE.is("place 1", x.place(1, 1), 1);
        DUE.is("no more", x.place(2, 1), -1);
        DUE.is("the first word", x.word(0, 1023), 0);
        DUE.is("a word over another", x.word(0, 1024), 1);
        DUE.is("the last word", x.word(0, 1422), 399);
        DUE.is("none behind it", x.word(0, 1423), 0);
        Code.load(x, 0, 4607, 6, 7);
        DUE.is("place 2", x.place(2, 1), 8);
        DUE.is("place 3", x.place(3, 1), 9);
    }

    private static void loadNoSuchJob() {
        DUE.about("NONE, doing nothing: no such job");
        REFUSALS.check("load", Scenes::waiting, -1, x -> x.load(-1, 0), x -> x.load(4, 0),
            x -> x.load(MIN, 0), x -> x.load(MAX, 0));
    }

    private static void loadHasBegun() {
        DUE.about("NONE, doing nothing: or it has begun");
        REFUSALS.check("load, one WAITS", Scenes::waiting, -1, x -> x.load(0, 0), x -> x.load(1, 0),
            x -> x.load(2, 0));
        REFUSALS.check("load, one is READY", Scenes::ready, -1, x -> x.load(0, 0), x -> x.load(0, 5120));
    }

    private static void loadAddressIsNone() {
        DUE.about("NONE, doing nothing: the address is none");
        REFUSALS.check("load", Scenes::waiting, -1, x -> x.load(3, -1), x -> x.load(3, 1048576),
            x -> x.load(3, MIN), x -> x.load(3, MAX));
    }

    private static void loadNotAllAtAddresses() {
        DUE.about("NONE, doing nothing: or they would not all lie at ADDRESSES");
        REFUSALS.check("load", Scenes::waiting, -1, x -> x.load(3, 1048575));
        OneLevelStore x = Scenes.waiting();
        DUE.is("just all", x.load(3, 1048574), 3);
        DUE.is("the last", x.word(3, 1048575), -6);
        DUE.is("its block, at the place that job 1 has left", x.place(1, 1), 2047);
    }

    private static void loadTooManyOfItsOwn() {
        DUE.about("BLOCKS of jobs that have not begun, these too, would be more than 64");
        REFUSALS.check("63 and two new", () -> Scenes.ownBlocks(63, 7, 8), -1, x -> x.load(3, 131071));
        REFUSALS.check("64 and one new", () -> Scenes.ownBlocks(64, 7), -1, x -> x.load(3, 512), x -> x.load(2, 0));
        OneLevelStore x = Scenes.ownBlocks(63, 7);
        DUE.is("63 and one new", x.load(3, 131071), 64);
        DUE.is("its place", x.place(63, 1), 255);
    }

    private static void loadTooManyWithOthersNotBegun() {
        DUE.about("BLOCKS of jobs that have not begun would be more than 64");
        REFUSALS.check("63 and two new", () -> Scenes.othersNotBegun(7, 8), -1, x -> x.load(3, 5119),
            x -> x.load(0, 51199));
        OneLevelStore x = Scenes.othersNotBegun(7);
        DUE.is("63 and one new", x.load(0, 51200), 21);
        x.key(8);
        DUE.is("64 and one new", x.load(1, 51200), -1);
        DUE.is("64 and none new", x.load(0, 51201), 21);
    }

    private static void loadTooManyWithOthersBegun() {
        DUE.about("and those that the others which are not over may have, would be more than 64");
        REFUSALS.check("63 and two new", () -> Scenes.othersBegun(7, 8), -1, x -> x.load(3, 5119),
            x -> x.load(1, 5119));
        OneLevelStore x = Scenes.othersBegun(7);
        DUE.is("63 and one new", x.load(3, 5119), 4);
        x.key(8);
        DUE.is("64 and one new", x.load(1, 1024), -1);
    }

    private static void loadCountsNewBlocksAlone() {
        DUE.about("BLOCKS, these too, would be more than 64 (those that it has are not new)");
        OneLevelStore x = Scenes.othersBegun(7, 8);
        DUE.is("63, an old one and a new one", x.load(3, 1535), 4);
        x.key(9);
        x.key(10);
        DUE.is("64 and two old ones", x.load(3, 511), 4);
        DUE.is("a word", x.word(3, 512), 10);
    }

    /** The WRITE of a job that is over has place 0 till tick 544; 63 blocks of others have all other places. */
    private static OneLevelStore withoutPlaces() {
        OneLevelStore x = Scenes.writesAtItsEnd(3);
        for (int i = 0; i < 61; i++) {
            Code.load(x, 1 + i % 3, 512 * i, i);
        }
        Code.runTo(x, 537);
        Code.load(x, 1, 51200, 7);
        Code.load(x, 1, 52224, 7);
        x.key(9);
        return x;
    }

    private static void loadWithoutPlaces() {
        DUE.about("NONE, doing nothing: fewer places are free than are new");
        REFUSALS.check("63 and a new one", LoadEdgeTest::withoutPlaces, -1, x -> x.load(3, 60000),
            x -> x.load(2, 60000));
        OneLevelStore x = withoutPlaces();
        DUE.is("into an old one", x.load(1, 51201), 23);
        DUE.is("its word", x.word(1, 51201), 9);
        Code.runTo(x, 545);
        DUE.is("when the WRITE has ended", Code.load(x, 1, 60000, 5), 24);
        DUE.is("at its place", x.place(0, 1), 117);
    }
}

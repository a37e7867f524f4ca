/** Machines whose course was worked out by hand. */
final class Scenes {
    private Scenes() {
    }

    /**
     * Three frames; job 0 ends in tick 536, while its block 1 is written to place 0 (ticks 512 to 543).
     * Block 0 comes in tick 288; block 1 is wanted then, and used once, by the first instruction. 203 are done
     * up to tick 491, with looks behind the 64th, 128th and 192nd: t of block 1 is 2. In tick 493 block 2 has
     * the last frame, and block 1 is CHOSEN. Then come 1 + 1 + 41 instructions, and the end.
     */
    static OneLevelStore writesAtItsEnd(int blocks) {
        return writesBeforeItsEnd(blocks, 40);
    }

    /** The same, with another number for those 40, by which the end comes earlier or later. */
    static OneLevelStore writesBeforeItsEnd(int blocks, int waiting) {
        OneLevelStore x = new OneLevelStore(3);
        Code.load(x, 0, 0, Code.of(0324, 0, 0, 512), Code.of(0121, 1, 0, 200), Code.of(0203, 127, 1, 2),
            Code.of(0324, 0, 0, 1024), Code.of(0121, 1, 0, waiting), Code.of(0203, 127, 1, 5), Code.END);
        x.start(0, 0, 1000, blocks);
        return x;
    }

    /** Three frames and job 2, which reads the blocks 1, 2, 3, and ends. */
    static OneLevelStore sweeps() {
        OneLevelStore x = new OneLevelStore(3);
        Code.load(x, 2, 0, Code.of(0324, 0, 0, 512), Code.of(0324, 0, 0, 1024), Code.of(0324, 0, 0, 1536),
            Code.END);
        x.start(2, 0, 100, 10);
        return x;
    }

    /** Fills places by blocks of job 3, which does not begin. */
    static void fill(OneLevelStore x, int places) {
        for (int i = 0; i < places; i++) {
            Code.load(x, 3, 512 * i, i + 1);
        }
    }

    /**
     * Job 1 has read its code, and its frame 0 went in tick 67, with a MARK. It comes back in tick 384, while job 0,
     * which was read in the ticks 256 to 287, goes round without end, so that job 1 can not use it.
     */
    static OneLevelStore comesBackUnused() {
        OneLevelStore x = new OneLevelStore(3);
        Code.load(x, 0, 0, Code.jump(0));
        Code.load(x, 1, 0, Code.of(0324, 0, 0, 512), Code.of(0324, 0, 0, 1024), Code.END);
        x.start(1, 0, 100, 3);
        Code.runTo(x, 200);
        x.start(0, 0, 1000, 1);
        return x;
    }

    /**
     * After 100 ticks job 0 WAITS, job 1 has ENDED (tick 67; one of its three words is printed), job 2 has FAILED (no
     * paper), job 3 has not begun; from tick 288 on job 0 is READY. Two words lie on the tray.
     */
    private static OneLevelStore busyAt(int ticks) {
        OneLevelStore x = new OneLevelStore(4);
        Code.load(x, 0, 0, Code.jump(0));
        Code.load(x, 1, 0, Code.of(01066, 0, 0, 0), Code.of(01066, 0, 0, 0), Code.of(01066, 0, 0, 0), Code.END);
        Code.load(x, 3, 511, 8, 9);
        Code.tape(x, 0, 4);
        Code.tape(x, 3, 4);
        x.start(0, 0, 1000, 3);
        x.start(1, 0, 10, 1);
        x.start(2, -1, 10, 1);
        x.run(ticks);
        x.key(5);
        x.key(-6);
        return x;
    }

    static OneLevelStore waiting() {
        return busyAt(100);
    }

    static OneLevelStore ready() {
        return busyAt(300);
    }

    static OneLevelStore ownBlocks(int count, long... words) {
        OneLevelStore x = new OneLevelStore(3);
        for (int i = 0; i < count; i++) {
            Code.load(x, 3, 1024 * i, i);
        }
        for (long word : words) {
            x.key(word);
        }
        return x;
    }

    /** Jobs 0, 1 and 2 have 20 blocks each, job 3 has none. */
    static OneLevelStore othersNotBegun(long... words) {
        OneLevelStore x = new OneLevelStore(3);
        for (int i = 0; i < 60; i++) {
            Code.load(x, i % 3, 512 * i, i);
        }
        Code.load(x, 3, 511, 1, 2);
        Code.load(x, 3, 2048, 1);
        for (long word : words) {
            x.key(word);
        }
        return x;
    }

    /** Job 0 may have 58, though it has one; job 2 is over and had 40; job 3 has three. */
    static OneLevelStore othersBegun(long... words) {
        OneLevelStore x = new OneLevelStore(3);
        x.start(2, -1, 5, 40);
        x.run(1);
        Code.load(x, 0, 0, Code.jump(0));
        x.start(0, 0, 1000, 58);
        Code.load(x, 1, 511, 1, 2);
        Code.load(x, 3, 511, 1, 2);
        Code.load(x, 3, 1024, 1);
        for (long word : words) {
            x.key(word);
        }
        return x;
    }
}

/** Machines whose course was worked out by hand. */
final class Scenes {
    private Scenes() {
    }

    /**
     * Three frames; job 0 ends in tick 536, while its block 1 is written to place 0 (ticks 512 to 543).
     * Block 0 comes in tick 288; block 1 is wanted then, and used once, by the first instruction. 203 are done
     * up to tick 491, with looks behind the 64th, 128th and 192nd: t of block 1 is 2. In tick 493 block 2 has
     * the last frame, and block 1 is CHOSEN. Then come 1 + 1 + 41 instructions, and the end.
     */
    static OneLevelStore writesAtItsEnd(int blocks) {
        OneLevelStore x = new OneLevelStore(3);
        Code.load(x, 0, 0, Code.of(0324, 0, 0, 512), Code.of(0121, 1, 0, 200), Code.of(0203, 127, 1, 2),
            Code.of(0324, 0, 0, 1024), Code.of(0121, 1, 0, 40), Code.of(0203, 127, 1, 5), Code.END);
        x.start(0, 0, 1000, blocks);
        return x;
    }

    /**
     * Four frames: the code in 0, X (block 1) in 1, Y (block 2) in 2. X is used through the 143rd instruction;
     * Y by the 2nd and the 144th. The looks behind the 64th, 128th, 192nd and 256th leave X with t 1, L 0, and
     * Y with t 1, L 1. Then so many instructions do nothing but wait, and Z (block 3) is wanted.
     */
    static OneLevelStore wantsZ(int waiting) {
        OneLevelStore x = new OneLevelStore(4);
        Code.load(x, 0, 0, Code.of(0324, 0, 0, 512), Code.of(0324, 0, 0, 1024), Code.of(0121, 1, 0, 69),
            Code.of(0324, 0, 0, 512), Code.of(0203, 127, 1, 3), Code.of(0324, 0, 0, 1024),
            Code.of(0121, 1, 0, waiting - 1), Code.of(0203, 127, 1, 7), Code.of(0324, 0, 0, 1536), Code.END);
        x.start(0, 0, 1000, 8);
        return x;
    }

    /** Three frames and job 2, which reads the blocks 1, 2, 3, and ends. */
    static OneLevelStore sweeps() {
        OneLevelStore x = new OneLevelStore(3);
        Code.load(x, 2, 0, Code.of(0324, 0, 0, 512), Code.of(0324, 0, 0, 1024), Code.of(0324, 0, 0, 1536),
            Code.END);
        x.start(2, 0, 100, 10);
        return x;
    }
}

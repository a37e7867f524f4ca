/**
 * A lone job 0 whose program lies at address 0. It wants block 0 in tick 0 and has a frame for it in tick 1; the
 * block lies at place 0, of sector 0, which is read in the ticks 256 to 287.
 */
final class Lone {
    /** The tick of its first instruction. */
    static final int FIRST = 288;
    /** Where data may lie behind the program, in the same block. */
    static final int DATA = 100;

    private Lone() {
    }

    static OneLevelStore begun(int limit, int blocks, long... program) {
        OneLevelStore x = new OneLevelStore(4);
        Code.load(x, 0, 0, program);
        x.start(0, 0, limit, blocks);
        return x;
    }

    /** After so many instructions, if none of them waits. */
    static OneLevelStore after(int count, long[] data, long... program) {
        OneLevelStore x = new OneLevelStore(4);
        Code.load(x, 0, 0, program);
        Code.load(x, 0, DATA, data);
        x.start(0, 0, 1000, 8);
        x.run(FIRST + count);
        return x;
    }

    static long[] data(long... words) {
        return words;
    }
}

/** Makes instructions, and puts words into a machine. */
final class Code {
    static final long GREATEST_WORD = (1L << 47) - 1;
    static final long LEAST_WORD = -(1L << 47);
    static final int GREATEST_HALF = (1 << 23) - 1;
    static final int LEAST_HALF = -(1 << 23);
    static final long END = of(01117, 0, 0, 0);

    private Code() {
    }

    static long of(int f, int a, int m, int n) {
        return ((long) f << 38) | ((long) a << 31) | ((long) m << 24) | (n & 0xFFFFFFL);
    }

    static long jump(int to) {
        return of(0121, 127, 0, to);
    }

    static int load(OneLevelStore x, int job, int address, long... words) {
        for (long word : words) {
            x.key(word);
        }
        return x.load(job, address);
    }

    static int tape(OneLevelStore x, int job, long... words) {
        for (long word : words) {
            x.key(word);
        }
        return x.tape(job);
    }

    /** Runs on until so many ticks were. */
    static void runTo(OneLevelStore x, int ticks) {
        for (int i = 0; i < 1000 && x.clock(0) < ticks; i++) {
            x.run(Math.min(2000, ticks - x.clock(0)));
        }
    }
}

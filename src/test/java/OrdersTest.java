/** PART 1 of the document: every function, on numbers that stay and on numbers that go round. */
final class OrdersTest {
    /** The first block of a lone job is there from this tick on: its place comes under the heads at tick 256. */
    private static final int FIRST = 288;
    private static final int DATA = 100;
    private static final Due DUE = new Due();

    public static void main(String[] args) {
        registerWithWord();
        registerWithNumber();
        testsOfT();
        counting();
        jumps();
        accumulator();
        extracodes();
        controlAsRegister();
        modification();
        nothingInBZero();
        DUE.end();
    }

    /** A job whose program begins at address 0, after so many of its instructions. */
    private static OneLevelStore after(int count, long[] data, long... program) {
        OneLevelStore x = new OneLevelStore(4);
        Code.load(x, 0, 0, program);
        Code.load(x, 0, DATA, data);
        x.start(0, 0, 1000, 8);
        x.run(FIRST + count);
        DUE.is("instructions done", x.job(0, 2), count);
        return x;
    }

    private static long[] data(long... words) {
        return words;
    }

    private static String octal(int f) {
        return Integer.toOctalString(f);
    }

    private static void bs(int f, int b, long s, int want) {
        OneLevelStore x = after(2, data(s), Code.of(0121, 5, 0, b), Code.of(f, 5, 0, DATA));
        DUE.is(octal(f) + " B " + b + " s " + s, x.register(0, 5), want);
        DUE.is(octal(f) + " leaves s", x.word(0, DATA), s);
    }

    private static void stored(int f, int b, long s, long want) {
        OneLevelStore x = after(2, data(s), Code.of(0121, 5, 0, b), Code.of(f, 5, 0, DATA));
        DUE.is(octal(f) + " B " + b + " s " + s, x.word(0, DATA), want);
        DUE.is(octal(f) + " leaves B", x.register(0, 5), b);
    }

    private static void registerWithWord() {
        bs(0101, 7, -3, -3);
        bs(0101, 7, (1L << 24) + 5, 5);
        bs(0101, 7, 1 << 23, Code.LEAST_HALF);
        bs(0102, 7, 10, -3);
        bs(0102, Code.LEAST_HALF, 1, Code.GREATEST_HALF);
        bs(0104, 7, 10, 17);
        bs(0104, Code.GREATEST_HALF, 1, Code.LEAST_HALF);
        bs(0106, 12, 10, 6);
        bs(0106, -1, 1L << 30, -1);
        bs(0107, 12, 10, 8);
        bs(0107, -1, 0xFFFFFF, -1);
        stored(0113, -9, 4, -9);
        stored(0114, -9, 4, -5);
        stored(0114, 1, Code.GREATEST_WORD, Code.LEAST_WORD);
        stored(0114, -1, Code.LEAST_WORD, Code.GREATEST_WORD);
    }

    private static void bn(int f, int b, int n, int want) {
        OneLevelStore x = after(2, data(), Code.of(0121, 5, 0, b), Code.of(f, 5, 0, n));
        DUE.is(octal(f) + " B " + b + " S " + n, x.register(0, 5), want);
    }

    private static void registerWithNumber() {
        bn(0120, 7, 10, 3);
        bn(0120, 1, Code.LEAST_HALF, Code.GREATEST_HALF);
        bn(0121, 7, -10, -10);
        bn(0122, 7, 10, -3);
        bn(0122, Code.LEAST_HALF, 1, Code.GREATEST_HALF);
        bn(0124, 7, 10, 17);
        bn(0124, Code.GREATEST_HALF, Code.GREATEST_HALF, -2);
        bn(0126, 12, 10, 6);
        bn(0126, -1, 1, -2);
        bn(0127, 12, 10, 8);
        bn(0127, -8, 13, 8);
    }

    private static void test(int f, int b, long s, int want) {
        int n = f == 0152 ? DATA : (int) s;
        OneLevelStore x = after(2, data(s), Code.of(0121, 5, 0, b), Code.of(f, 5, 0, n));
        DUE.is(octal(f) + " B " + b + " with " + s, x.job(0, 7), want);
        DUE.is(octal(f) + " leaves B", x.register(0, 5), b);
    }

    private static void testsOfT() {
        test(0152, 3, 4, -1);
        test(0152, 3, 3, 0);
        test(0152, 3, 2, 1);
        test(0152, 5, (1L << 24) + 5, -1);
        test(0152, Code.GREATEST_HALF, Code.LEAST_WORD, 1);
        test(0152, Code.LEAST_HALF, Code.GREATEST_WORD, -1);
        test(0172, 3, 4, -1);
        test(0172, 3, 3, 0);
        test(0172, 3, 2, 1);
        test(0172, Code.GREATEST_HALF, Code.LEAST_HALF, 1);
        test(0172, Code.LEAST_HALF, Code.GREATEST_HALF, -1);
    }

    private static void count(int f, int m, int before, int wantM, int wantA) {
        OneLevelStore x = after(2, data(), Code.of(0121, 6, 0, before), Code.of(f, 5, m, -77));
        DUE.is(octal(f) + " Bm", x.register(0, m), wantM);
        DUE.is(octal(f) + " Ba", x.register(0, 5), wantA);
    }

    private static void counting() {
        count(0200, 6, 0, 0, 0);
        count(0200, 6, -1, 0, -77);
        count(0200, 6, Code.GREATEST_HALF, Code.LEAST_HALF, -77);
        count(0203, 6, 0, 0, 0);
        count(0203, 6, 1, 0, -77);
        count(0203, 6, Code.LEAST_HALF, Code.GREATEST_HALF, -77);
        count(0200, 0, 4, 0, 0);
        count(0200, 127, 4, 3, -77);
        OneLevelStore x = after(2, data(), Code.of(0121, 6, 0, 4), Code.of(0203, 6, 6, 50));
        DUE.is("0203 with a and m the same", x.register(0, 6), 50);
    }

    private static void onRegister(int f, int b, boolean goes) {
        OneLevelStore x = after(2, data(), Code.of(0121, 6, 0, b), Code.of(f, 127, 6, 40));
        DUE.is(octal(f) + " at B " + b, x.register(0, 127), goes ? 40 : 2);
    }

    private static void onTest(int f, int b, boolean goes) {
        OneLevelStore x = after(3, data(), Code.of(0121, 6, 0, b), Code.of(0172, 6, 0, 0),
            Code.of(f, 127, 6, 40));
        DUE.is(octal(f) + " at T of " + b, x.register(0, 127), goes ? 40 + b : 3);
    }

    private static void onAccumulator(int f, long a, boolean goes) {
        OneLevelStore x = after(3, data(a), Code.of(0121, 6, 0, 9), Code.of(0324, 0, 0, DATA),
            Code.of(f, 127, 6, 40));
        DUE.is(octal(f) + " at A " + a, x.register(0, 127), goes ? 49 : 3);
    }

    private static void jumps() {
        int[] tested = {-3, 0, 3};
        for (int v : tested) {
            boolean[] so = {v == 0, v != 0, v >= 0, v < 0};
            for (int i = 0; i < 4; i++) {
                onRegister(0214 + i, v, so[i]);
                onTest(0224 + i, v, so[i]);
                onAccumulator(0234 + i, v, so[i]);
                onAccumulator(0234 + i, v * (1L << 40), so[i]);
            }
        }
    }

    private static void as(int f, long a, long s, long wantA, long wantS) {
        OneLevelStore x = after(2, data(a, s), Code.of(0324, 0, 0, DATA), Code.of(f, 0, 0, DATA + 1));
        DUE.is(octal(f) + " A " + a + " s " + s, x.accumulator(0), wantA);
        DUE.is(octal(f) + " A " + a + " s " + s + ", the word", x.word(0, DATA + 1), wantS);
    }

    private static void accumulator() {
        long g = Code.GREATEST_WORD;
        long l = Code.LEAST_WORD;
        as(0320, 5, 7, 12, 7);
        as(0320, g, 1, l, 1);
        as(0321, 5, 7, -2, 7);
        as(0321, l, 1, g, 1);
        as(0322, 5, 7, 2, 7);
        as(0322, l, 1, l + 1, 1);
        as(0324, 5, 7, 7, 7);
        as(0325, 5, 7, -7, 7);
        as(0325, 5, l, l, l);
        as(0346, 5, 7, 0, 5);
        as(0356, 5, 7, 5, 5);
        as(0362, -5, 7, -35, 7);
        as(0362, (1L << 46) + 3, 4, 12, 4);
        as(0362, g, g, 1, g);
        as(0374, 17, 5, 3, 5);
        as(0374, -17, 5, -3, 5);
        as(0374, 17, -5, -3, -5);
        as(0374, l, -1, l, -1);
        as(0364, 5, 0, 40, 0);
        as(0364, 1L << 44, 0, l, 0);
        as(0364, (1L << 45) + 1, 0, 8, 0);
        as(0365, 17, 0, 2, 0);
        as(0365, -17, 0, -3, 0);
        as(0365, -1, 0, -1, 0);
    }

    private static void extracodes() {
        OneLevelStore x = new OneLevelStore(4);
        Code.tape(x, 0, 41, -42);
        Code.load(x, 0, 0, Code.of(01050, 0, 0, 0), Code.of(01066, 0, 0, 0), Code.of(01050, 0, 0, 0),
            Code.of(01104, 7, 0, 0), Code.of(01066, 0, 0, 0), Code.of(01121, 8, 0, 0), Code.END);
        x.start(0, 0, 1000, 8);
        x.run(FIRST + 1);
        DUE.is("1050", x.accumulator(0), 41);
        DUE.is("the tape is shorter", x.job(0, 5), 1);
        x.run(6);
        DUE.is("the paper", x.paper(0, 0), 41);
        DUE.is("the paper's end", x.paper(0, 1), -42);
        DUE.is("1104 of -42", x.register(0, 7), 45);
        DUE.is("1121", x.register(0, 8), 6);
        DUE.is("1117", x.job(0, 0), 3);
        DUE.is("1117 is done too", x.job(0, 2), 7);
        DUE.is("and CONTROL is behind it", x.register(0, 127), 7);
        root(0, 0);
        root(1, 1);
        root(3, 1);
        root(4, 2);
        root(11863283L * 11863283L, 11863283);
        root(11863283L * 11863283L - 1, 11863282);
        root(Code.GREATEST_WORD, 11863283);
        bits(0, 0);
        bits(-1, 48);
        bits(Code.LEAST_WORD, 1);
        bits(Code.GREATEST_WORD, 47);
    }

    private static void root(long a, long want) {
        as(01300, a, 0, want, 0);
    }

    private static void bits(long a, int want) {
        OneLevelStore x = after(2, data(a), Code.of(0324, 0, 0, DATA), Code.of(01104, 5, 0, 0));
        DUE.is("1104 of " + a, x.register(0, 5), want);
    }

    private static void controlAsRegister() {
        OneLevelStore x = after(1, data(), Code.of(0113, 127, 0, DATA));
        DUE.is("0113 of B127", x.word(0, DATA), 1);
        x = after(1, data(), Code.of(0124, 127, 0, 5));
        DUE.is("0124 of B127", x.register(0, 127), 6);
        x = after(1, data(), Code.of(0121, 5, 127, 10));
        DUE.is("S with B127", x.register(0, 5), 11);
        x = after(1, data(), Code.of(01121, 127, 0, 0));
        DUE.is("1121 of B127", x.register(0, 127), 1);
        x = after(1, data(23), Code.of(0101, 127, 0, DATA));
        DUE.is("0101 of B127", x.register(0, 127), 23);
    }

    private static void modification() {
        OneLevelStore x = after(3, data(1, 2, 3, 4), Code.of(0121, 5, 0, 1), Code.of(0121, 6, 0, 2),
            Code.of(0324, 5, 6, DATA));
        DUE.is("03.. adds Ba and Bm", x.accumulator(0), 4);
        x = after(2, data(1, 2, 3, 4), Code.of(0121, 5, 0, 1), Code.of(0324, 5, 5, DATA));
        DUE.is("03.. adds the same twice", x.accumulator(0), 3);
        x = after(3, data(1, 2, 3, 4), Code.of(0121, 5, 0, 1), Code.of(0121, 6, 0, 2),
            Code.of(0101, 5, 6, DATA));
        DUE.is("01.. adds Bm alone", x.register(0, 5), 3);
        x = after(2, data(1, 2, 3, 4), Code.of(0121, 6, 0, Code.LEAST_HALF),
            Code.of(0324, 0, 6, Code.LEAST_HALF + DATA + 1));
        DUE.is("S goes round", x.accumulator(0), 2);
        x = after(2, data(Code.of(0121, 5, 0, 66)), Code.of(0324, 0, 0, DATA), Code.of(0356, 0, 0, 2), 0);
        x.run(1);
        DUE.is("a word that was stored is done", x.register(0, 5), 66);
    }

    private static void nothingInBZero() {
        OneLevelStore x = after(3, data(9), Code.of(0121, 0, 0, 5), Code.of(0101, 0, 0, DATA),
            Code.of(0120, 0, 0, 7));
        DUE.is("B0", x.register(0, 0), 0);
        x = after(2, data(9), Code.of(0121, 0, 0, 5), Code.of(0324, 0, 0, DATA));
        DUE.is("B0 modifies nothing", x.accumulator(0), 9);
    }
}

/** PART 1, numbers: where they go round, are cut, keep their sign, and what B0 and B127 do. One test a sentence. */
final class NumbersEdgeTest {
    private static final long G = Code.GREATEST_WORD;
    private static final long L = Code.LEAST_WORD;
    private static final int GH = Code.GREATEST_HALF;
    private static final int LH = Code.LEAST_HALF;
    private static final int DATA = Lone.DATA;
    private static final Due DUE = new Due();

    public static void main(String[] args) {
        wordsGoRound();
        sumsInTheStoreGoRound();
        halvesGoRound();
        countersGoRound();
        addressesGoRound();
        wordsAreCut();
        signsAreKept();
        wholeWordIsTested();
        wholeNumberIsTested();
        nothingComesIntoBZero();
        bZeroCountsNothing();
        control();
        controlGoesOn();
        conditions();
        divisionTowardsZero();
        divisionDownwards();
        bits();
        roots();
        storedThenZero();
        addresses();
        blocks();
        allIsZeroAtFirst();
        DUE.end();
    }

    private static String octal(int f) {
        return Integer.toOctalString(f);
    }

    /** One instruction with A and a word, which lies behind A's own. */
    private static void withA(int f, long a, long s, long wantA) {
        OneLevelStore x = Lone.after(2, Lone.data(a, s), Code.of(0324, 0, 0, DATA), Code.of(f, 0, 0, DATA + 1));
        DUE.is(octal(f) + " is done", x.job(0, 2), 2);
        DUE.is(octal(f) + " of A " + a + ", s " + s, x.accumulator(0), wantA);
    }

    /** One instruction with B5 and a word. */
    private static OneLevelStore withB(int f, int b, long s) {
        OneLevelStore x = Lone.after(2, Lone.data(s), Code.of(0121, 5, 0, b), Code.of(f, 5, 0, DATA));
        DUE.is(octal(f) + " is done", x.job(0, 2), 2);
        return x;
    }

    /** One instruction with B5 and a number. */
    private static OneLevelStore withN(int f, int b, int n) {
        OneLevelStore x = Lone.after(2, Lone.data(), Code.of(0121, 5, 0, b), Code.of(f, 5, 0, n));
        DUE.is(octal(f) + " is done", x.job(0, 2), 2);
        return x;
    }

    private static void wordsGoRound() {
        DUE.about("WORDS have 48 bits, with a sign; what is beyond goes round");
        withA(0320, G, 1, L);
        withA(0320, L, -1, G);
        withA(0320, G, G, -2);
        withA(0321, L, 1, G);
        withA(0321, G, -1, L);
        withA(0322, 1, L, G);
        withA(0322, -1, G, L);
        withA(0325, 0, L, L);
        withA(0325, 0, G, -G);
        withA(0362, G, G, 1);
        withA(0362, L, -1, L);
        withA(0362, L, L, 0);
        withA(0362, 1 << 24, 1 << 23, L);
        withA(0362, 1 << 24, 1 << 24, 0);
        withA(0362, -(1 << 24), 1 << 23, L);
        withA(0374, L, -1, L);
        withA(0364, 1L << 44, 0, L);
        withA(0364, (1L << 44) - 1, 0, G - 7);
        withA(0364, 1L << 45, 0, 0);
        withA(0364, -(1L << 44), 0, L);
        withA(0364, -(1L << 44) - 1, 0, G - 7);
    }

    private static void sumsInTheStoreGoRound() {
        DUE.about("0114 s = s + Ba: what is beyond goes round");
        DUE.is("above", withB(0114, 1, G).word(0, DATA), L);
        DUE.is("below", withB(0114, -1, L).word(0, DATA), G);
        DUE.is("not yet above", withB(0114, 1, G - 1).word(0, DATA), G);
        DUE.is("not yet below", withB(0114, -1, L + 1).word(0, DATA), L);
    }

    private static void halvesGoRound() {
        DUE.about("numbers of 24 BITS likewise; what is beyond goes round");
        DUE.is("0102 below", withB(0102, LH, 1).register(0, 5), GH);
        DUE.is("0102 above", withB(0102, GH, -1).register(0, 5), LH);
        DUE.is("0104 above", withB(0104, GH, 1).register(0, 5), LH);
        DUE.is("0104 below", withB(0104, LH, -1).register(0, 5), GH);
        DUE.is("0104 far above", withB(0104, 3, G).register(0, 5), 2);
        DUE.is("0120 below", withN(0120, 1, LH).register(0, 5), GH);
        DUE.is("0120 above", withN(0120, -1, GH).register(0, 5), LH);
        DUE.is("0122 below", withN(0122, LH, 1).register(0, 5), GH);
        DUE.is("0122 above", withN(0122, 0, LH).register(0, 5), LH);
        DUE.is("0124 above", withN(0124, GH, 1).register(0, 5), LH);
        DUE.is("0124 below", withN(0124, LH, -1).register(0, 5), GH);
    }

    private static void count(int f, int before, int after) {
        OneLevelStore x = Lone.after(2, Lone.data(), Code.of(0121, 6, 0, before), Code.of(f, 5, 6, 77));
        DUE.is(octal(f) + " of " + before, x.register(0, 6), after);
        DUE.is(octal(f) + " of " + before + ", Ba", x.register(0, 5), before == 0 ? 0 : 77);
    }

    private static void countersGoRound() {
        DUE.about("0200, 0203: if Bm is not 0: it becomes 1 more, 1 less, then Ba = N");
        count(0200, 0, 0);
        count(0200, -1, 0);
        count(0200, 1, 2);
        count(0200, GH, LH);
        count(0203, 0, 0);
        count(0203, 1, 0);
        count(0203, -1, -2);
        count(0203, LH, GH);
        OneLevelStore x = Lone.after(2, Lone.data(), Code.of(0121, 6, 0, 4), Code.of(0200, 6, 6, 50));
        DUE.is("first Bm, then Ba", x.register(0, 6), 50);
    }

    private static void addressesGoRound() {
        DUE.about("S is N + Bm (24 bits; with F from 0300 to 0377 N + Ba + Bm)");
        OneLevelStore x = Lone.after(2, Lone.data(), Code.of(0121, 6, 0, 1), Code.of(0121, 5, 6, GH));
        DUE.is("just above", x.register(0, 5), LH);
        x = Lone.after(2, Lone.data(), Code.of(0121, 6, 0, -1), Code.of(0121, 5, 6, LH));
        DUE.is("just below", x.register(0, 5), GH);
        x = Lone.after(3, Lone.data(8, 9), Code.of(0121, 5, 0, LH), Code.of(0121, 6, 0, LH),
            Code.of(0324, 5, 6, DATA + 1));
        DUE.is("all the way round", x.accumulator(0), 9);
        x = Lone.after(2, Lone.data(8, 9), Code.of(0121, 6, 0, 1 << 20), Code.of(0101, 5, 6, DATA + 1 - (1 << 20)));
        DUE.is("N below 0, S an ADDRESS", x.register(0, 5), 9);
        x = Lone.after(2, Lone.data(8, 9), Code.of(0121, 5, 0, 1), Code.of(0101, 5, 0, DATA));
        DUE.is("Ba is no part of it below 0300", x.register(0, 5), 8);
        x = Lone.after(2, Lone.data(), Code.of(0121, 5, 0, 1), Code.of(0121, 5, 0, GH));
        DUE.is("nor without s", x.register(0, 5), GH);
        x = Lone.after(2, Lone.data(), Code.of(0121, 6, 0, 1), Code.of(0324, 0, 6, GH));
        DUE.is("above GREATEST it is below 0, and no ADDRESS", x.job(0, 1), 2);
    }

    private static void wordsAreCut() {
        DUE.about("Words are cut to 24 bits where they come to a B");
        DUE.is("0101 of 2 to the 23", withB(0101, 7, 1 << 23).register(0, 5), LH);
        DUE.is("0101 of one less", withB(0101, 7, GH).register(0, 5), GH);
        DUE.is("0101 of 2 to the 24", withB(0101, 7, 1 << 24).register(0, 5), 0);
        DUE.is("0101 of the greatest", withB(0101, 7, G).register(0, 5), -1);
        DUE.is("0101 of the least", withB(0101, 7, L).register(0, 5), 0);
        DUE.is("0106 with a sign from within", withB(0106, 0, 0x800001).register(0, 5), LH + 1);
        DUE.is("0107 with a sign from within", withB(0107, -1, 0x1800001).register(0, 5), LH + 1);
    }

    private static void signsAreKept() {
        DUE.about("a B comes to a word with its sign");
        DUE.is("0113 of the least", withB(0113, LH, 5).word(0, DATA), LH);
        DUE.is("0113 of the greatest", withB(0113, GH, -5).word(0, DATA), GH);
        DUE.is("0113 of -1", withB(0113, -1, 5).word(0, DATA), -1);
        DUE.is("0114 of the least", withB(0114, LH, 1).word(0, DATA), LH + 1);
        DUE.is("0114 of the greatest", withB(0114, GH, 1).word(0, DATA), 1 << 23);
    }

    private static void wholeWordIsTested() {
        DUE.about("0152 T is the sign of Ba - s (of the whole s; nothing goes round in it)");
        DUE.is("equal in 24 bits, s above", withB(0152, 5, (1L << 24) + 5).job(0, 7), -1);
        DUE.is("equal in 24 bits, s below", withB(0152, 5, 5 - (1L << 24)).job(0, 7), 1);
        DUE.is("least and greatest", withB(0152, LH, G).job(0, 7), -1);
        DUE.is("greatest and least", withB(0152, GH, L).job(0, 7), 1);
        DUE.is("0 and the least", withB(0152, 0, L).job(0, 7), 1);
        DUE.is("equal", withB(0152, LH, LH).job(0, 7), 0);
        DUE.is("one above", withB(0152, LH, LH - 1).job(0, 7), 1);
        DUE.is("one below", withB(0152, GH, GH + 1).job(0, 7), -1);
    }

    private static void wholeNumberIsTested() {
        DUE.about("0172 T is the sign of Ba - S (likewise)");
        DUE.is("least and greatest", withN(0172, LH, GH).job(0, 7), -1);
        DUE.is("greatest and least", withN(0172, GH, LH).job(0, 7), 1);
        DUE.is("0 and the least", withN(0172, 0, LH).job(0, 7), 1);
        DUE.is("equal", withN(0172, LH, LH).job(0, 7), 0);
        DUE.is("one above", withN(0172, 1, 0).job(0, 7), 1);
        DUE.is("one below", withN(0172, -1, 0).job(0, 7), -1);
        OneLevelStore x = Lone.after(2, Lone.data(), Code.of(0121, 6, 0, 1), Code.of(0172, 5, 6, GH));
        DUE.is("S itself has 24 bits", x.job(0, 7), 1);
    }

    private static void nothingComesIntoBZero() {
        DUE.about("What is put into B0 is lost");
        int[] functions = {0101, 0102, 0104, 0106, 0120, 0121, 0122, 0124, 0126, 0200, 0203, 0215, 0217, 0224, 0226,
            0235, 0236, 01104, 01121};
        for (int f : functions) {
            int m = f == 0200 || f == 0203 || f == 0215 || f == 0217 ? 6 : 0;
            OneLevelStore x = Lone.after(4, Lone.data(9), Code.of(0324, 0, 0, DATA), Code.of(0121, 6, 0, -5),
                Code.of(f, 0, m, DATA), Code.of(0121, 5, 0, 3));
            DUE.is(octal(f) + " is done", x.job(0, 2), 4);
            DUE.is(octal(f) + ", B0", x.register(0, 0), 0);
            DUE.is(octal(f) + ", S with it", x.register(0, 5), 3);
        }
        OneLevelStore x = Lone.after(3, Lone.data(9), Code.of(0121, 0, 0, 5), Code.of(0113, 0, 0, DATA),
            Code.of(0120, 5, 0, 44));
        DUE.is("a 0 comes from it", x.word(0, DATA), 0);
        DUE.is("other registers are not it", x.register(0, 5), 44);
    }

    private static void bZeroCountsNothing() {
        DUE.about("B0 is 0 and stays so");
        OneLevelStore x = Lone.after(2, Lone.data(), Code.of(0200, 5, 0, 7), Code.of(0203, 6, 0, 7));
        DUE.is("both are done", x.job(0, 2), 2);
        DUE.is("0200 with m 0", x.register(0, 5), 0);
        DUE.is("0203 with m 0", x.register(0, 6), 0);
        DUE.is("B0", x.register(0, 0), 0);
        x = Lone.after(4, Lone.data(), Code.of(0214, 5, 0, 7), Code.of(0215, 6, 0, 7), Code.of(0216, 7, 0, 7),
            Code.of(0217, 8, 0, 7));
        DUE.is("it is 0", x.register(0, 5), 7);
        DUE.is("it is not other than 0", x.register(0, 6), 0);
        DUE.is("it is not below 0", x.register(0, 7), 7);
        DUE.is("so it is not", x.register(0, 8), 0);
    }

    private static void control() {
        DUE.about("Where 127 is told, B127 is 1 more already");
        OneLevelStore x = Lone.after(1, Lone.data(7), Code.of(0113, 127, 0, DATA));
        DUE.is("as a", x.word(0, DATA), 1);
        x = Lone.after(1, Lone.data(), Code.of(0121, 5, 127, 10));
        DUE.is("as m", x.register(0, 5), 11);
        x = Lone.after(1, Lone.data(7, 8, 9), Code.of(0324, 127, 127, DATA));
        DUE.is("as both", x.accumulator(0), 9);
        x = Lone.after(2, Lone.data(), Code.of(0214, 5, 127, 8), Code.of(0215, 6, 127, 8));
        DUE.is("it is not 0 at address 0", x.register(0, 5), 0);
        DUE.is("but other", x.register(0, 6), 8);
        x = Lone.after(1, Lone.data(), Code.of(0172, 127, 0, 1));
        DUE.is("in a test", x.job(0, 7), 0);
        x = Lone.after(1, Lone.data(), Code.of(0200, 5, 127, 8));
        DUE.is("0200 of it", x.register(0, 127), 2);
        x = Lone.after(1, Lone.data(), Code.of(0203, 5, 127, 8));
        DUE.is("0203 of it", x.register(0, 127), 0);
    }

    private static void controlGoesOn() {
        DUE.about("what is put into it is where it goes on");
        int[][] due = {{0101, 40}, {0102, 1 - 40}, {0104, 41}, {0106, 41}, {0107, 0}, {0120, DATA - 1}, {0121, DATA},
            {0122, 1 - DATA}, {0124, DATA + 1}, {0126, DATA ^ 1}, {0127, 0}, {01104, 0}, {01121, 1}};
        for (int[] one : due) {
            OneLevelStore x = Lone.after(1, Lone.data(40), Code.of(one[0], 127, 0, DATA));
            DUE.is(octal(one[0]), x.register(0, 127), one[1]);
        }
        OneLevelStore x = Lone.after(2, Lone.data(Code.of(0121, 5, 0, 66)), Code.jump(DATA));
        DUE.is("the instruction there", x.register(0, 5), 66);
        DUE.is("and behind it", x.register(0, 127), DATA + 1);
    }

    /** With F 0214 and the like a is 5: then Ba = N or S is seen, and CONTROL is not it. */
    private static void condition(int f, long value, boolean so) {
        long[] program = {Code.of(0324, 0, 0, DATA), Code.of(0121, 6, 0, (int) value), Code.of(0172, 6, 0, 0),
            Code.of(f, 5, 6, 300)};
        OneLevelStore x = Lone.after(4, Lone.data(value), program);
        int due = f < 0220 ? 300 : (int) (300 + value);
        DUE.is(octal(f) + " at " + value, x.register(0, 5), so ? due : 0);
        DUE.is(octal(f) + " leaves Bm", x.register(0, 6), value);
    }

    private static void conditions() {
        DUE.about("if Bm is 0, is not 0, is not below 0, is below 0: Ba = N; if T is so: Ba = S; if A is so: Ba = S");
        int[] first = {0214, 0224, 0234};
        for (int f : first) {
            for (int value = -1; value <= 1; value++) {
                condition(f, value, value == 0);
                condition(f + 1, value, value != 0);
                condition(f + 2, value, value >= 0);
                condition(f + 3, value, value < 0);
            }
        }
        OneLevelStore x = Lone.after(3, Lone.data(L), Code.of(0324, 0, 0, DATA), Code.of(0237, 5, 0, 8),
            Code.of(0234, 6, 0, 8));
        DUE.is("the whole A is below 0", x.register(0, 5), 8);
        DUE.is("and not 0, though its lowest bits are", x.register(0, 6), 0);
    }

    private static void divisionTowardsZero() {
        DUE.about("0374 A = A / s, towards 0");
        withA(0374, 7, 2, 3);
        withA(0374, -7, 2, -3);
        withA(0374, 7, -2, -3);
        withA(0374, -7, -2, 3);
        withA(0374, 1, 2, 0);
        withA(0374, -1, 2, 0);
        withA(0374, L, G, -1);
        withA(0374, L, 1, L);
    }

    private static void divisionDownwards() {
        DUE.about("0365 A = A / 8, downwards");
        withA(0365, 7, 0, 0);
        withA(0365, 8, 0, 1);
        withA(0365, -1, 0, -1);
        withA(0365, -8, 0, -1);
        withA(0365, -9, 0, -2);
        withA(0365, G, 0, (1L << 44) - 1);
        withA(0365, L, 0, -(1L << 44));
    }

    private static void bits() {
        DUE.about("1104 Ba = how many bits of A are 1");
        long[] words = {0, 1, -1, G, L, -2};
        int[] due = {0, 1, 48, 47, 1, 47};
        for (int i = 0; i < words.length; i++) {
            OneLevelStore x = Lone.after(2, Lone.data(words[i]), Code.of(0324, 0, 0, DATA), Code.of(01104, 5, 0, 0));
            DUE.is("of " + words[i], x.register(0, 5), due[i]);
        }
    }

    private static void roots() {
        DUE.about("1300 A = the greatest number whose square is not above A");
        withA(01300, 0, 0, 0);
        long[] roots = {1, 2, 3, 7, 8, 1000, 4095, 4096, 65535, 1 << 23, 9999999, 11863282, 11863283};
        for (long root : roots) {
            withA(01300, root * root - 1, 0, root - 1);
            withA(01300, root * root, 0, root);
            withA(01300, root * root + 1, 0, root);
            withA(01300, Math.min(G, root * root + 2 * root), 0, root);
        }
    }

    private static void storedThenZero() {
        DUE.about("0346 s = A, then A = 0. 0356 s = A");
        OneLevelStore x = Lone.after(2, Lone.data(L, 5), Code.of(0324, 0, 0, DATA), Code.of(0346, 0, 0, DATA + 1));
        DUE.is("0346, s", x.word(0, DATA + 1), L);
        DUE.is("0346, A", x.accumulator(0), 0);
        x = Lone.after(2, Lone.data(G, 5), Code.of(0324, 0, 0, DATA), Code.of(0356, 0, 0, DATA + 1));
        DUE.is("0356, s", x.word(0, DATA + 1), G);
        DUE.is("0356, A", x.accumulator(0), G);
    }

    private static void addresses() {
        DUE.about("a STORE of words at the ADDRESSES 0 to 1048575");
        OneLevelStore x = Lone.begun(10, 2, Code.of(0113, 127, 0, 1048575), Code.of(0113, 127, 0, 0));
        x.run(Lone.FIRST + 3);
        DUE.is("the last", x.word(0, 1048575), 1);
        DUE.is("the first", x.word(0, 0), 2);
        DUE.is("below the first", x.word(0, -1), 0);
        DUE.is("above the last", x.word(0, 1048576), 0);
        DUE.is("two BLOCKS", x.job(0, 4), 2);
    }

    private static void blocks() {
        DUE.about("in BLOCKS of 512 (block b: from 512 * b on)");
        int[][] due = {{511, 0}, {512, 1}, {1023, 1}, {1024, 2}, {1048063, 2046}, {1048064, 2047}, {1048575, 2047}};
        for (int[] one : due) {
            OneLevelStore x = new OneLevelStore(3);
            Code.load(x, 1, one[0], 8);
            DUE.is("the block that " + one[0] + " is loaded into", x.place(0, 1), one[1]);
            x.start(0, one[0], 5, 1);
            x.run(1);
            DUE.is("the block that CONTROL " + one[0] + " wants", x.job(0, 3), one[1]);
        }
    }

    private static void allIsZeroAtFirst() {
        DUE.about("All is 0, or empty, at first");
        for (int job = 0; job < 4; job++) {
            OneLevelStore x = new OneLevelStore(3);
            for (int b = 0; b <= 127; b++) {
                DUE.is("B" + b, x.register(job, b), 0);
            }
            DUE.is("A", x.accumulator(job), 0);
            DUE.job("at first", x, job, 0, 0, 0, -1, 0, 0, 0, 0, -1);
            DUE.is("a paper's word", x.paper(job, 0), 0);
            DUE.is("the first word", x.word(job, 0), 0);
            DUE.is("the last word", x.word(job, 1048575), 0);
        }
    }
}

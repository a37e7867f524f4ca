/** Promises 1 to 11 and 18: what the calls take, what they refuse, and that a refusal does nothing. */
final class CallsTest {
    private static final Due DUE = new Due();

    public static void main(String[] args) {
        newObject();
        keys();
        loads();
        tapes();
        starts();
        runs();
        jobs();
        registersAndWords();
        clocks();
        DUE.end();
    }

    private static void frames(int asked, int had) {
        OneLevelStore x = new OneLevelStore(asked);
        DUE.is(asked + " frames, the last", x.frame(had - 1, 0), 0);
        DUE.is(asked + " frames, one more", x.frame(had, 0), OneLevelStore.NONE);
    }

    private static void newObject() {
        DUE.is("NONE", OneLevelStore.NONE, -1);
        frames(Integer.MIN_VALUE, 3);
        frames(2, 3);
        frames(3, 3);
        frames(9, 9);
        frames(16, 16);
        frames(17, 16);
        frames(Integer.MAX_VALUE, 16);
        OneLevelStore x = new OneLevelStore(3);
        for (int i = 0; i < 64; i++) {
            DUE.is("place " + i, x.place(i, 0), -1);
        }
        DUE.is("first key", x.key(5), 1);
    }

    private static void keys() {
        OneLevelStore x = new OneLevelStore(3);
        x.key(Code.GREATEST_WORD + 1);
        x.key((1L << 48) + 7);
        x.key(-1);
        DUE.is("four keys", x.key(Long.MIN_VALUE + 9), 4);
        DUE.is("load", x.load(3, 10), 1);
        DUE.is("sign", x.word(3, 10), Code.LEAST_WORD);
        DUE.is("beyond", x.word(3, 11), 7);
        DUE.is("below 0", x.word(3, 12), -1);
        DUE.is("the lowest 48", x.word(3, 13), 9);
        DUE.is("the tray is empty then", x.key(1), 1);
    }

    private static void loads() {
        OneLevelStore x = new OneLevelStore(3);
        DUE.is("nothing", x.load(1, 0), 0);
        DUE.is("no place for nothing", x.place(0, 0), -1);
        DUE.is("two blocks", Code.load(x, 1, 1534, 1, 2, 3, 4), 2);
        DUE.is("another job", Code.load(x, 0, 1048575, 9), 1);
        DUE.is("an old and a new one", Code.load(x, 1, 1022, 5, 6, 7), 3);
        DUE.is("place 0, job", x.place(0, 0), 1);
        DUE.is("place 0, block", x.place(0, 1), 2);
        DUE.is("place 1, block", x.place(1, 1), 3);
        DUE.is("place 2, job", x.place(2, 0), 0);
        DUE.is("place 2, block", x.place(2, 1), 2047);
        DUE.is("place 3, job", x.place(3, 0), 1);
        DUE.is("place 3, block", x.place(3, 1), 1);
        DUE.is("place 4", x.place(4, 0), -1);
        DUE.is("a word over another", Code.load(x, 1, 1535, 88), 3);
        DUE.is("before it", x.word(1, 1534), 1);
        DUE.is("it", x.word(1, 1535), 88);
        DUE.is("behind it", x.word(1, 1536), 3);
        DUE.is("across", x.word(1, 1024), 7);
        DUE.is("nothing, with blocks", x.load(1, 0), 3);
        DUE.is("its BLOCKS", x.job(1, 4), 3);
        DUE.is("place, other", x.place(0, 2), -1);
        DUE.is("place, other", x.place(0, -1), -1);
        DUE.is("place -1", x.place(-1, 0), -1);
        DUE.is("place 64", x.place(64, 0), -1);
    }

    private static void tapes() {
        OneLevelStore x = new OneLevelStore(3);
        DUE.is("nothing", x.tape(0), 0);
        for (int i = 0; i < 499; i++) {
            x.key(i);
        }
        DUE.is("no job", x.tape(-1), -1);
        DUE.is("no job", x.tape(4), -1);
        DUE.is("499", x.tape(0), 499);
        x.key(499);
        x.key(500);
        DUE.is("501", x.tape(0), -1);
        DUE.is("they are on the tray", x.key(501), 3);
        DUE.is("another job has them", x.tape(1), 3);
        DUE.is("told", x.job(1, 5), 3);
        DUE.is("the 500th", Code.tape(x, 0, 8), 500);
        x = new OneLevelStore(3);
        Code.load(x, 0, 0, Code.of(01050, 0, 0, 0), Code.of(01050, 0, 0, 0), Code.END);
        Code.tape(x, 0, 21);
        x.start(0, 0, 9, 1);
        DUE.is("a job that waits", Code.tape(x, 0, 22), 2);
        x.run(290);
        DUE.is("read", x.accumulator(0), 22);
        DUE.is("a job that is ready", Code.tape(x, 0, 23, 24), 2);
        x.run(1);
        x.key(25);
        DUE.is("a job that is over", x.tape(0), -1);
        DUE.is("the tray has it", x.key(26), 2);
        DUE.is("its tape stays", x.job(0, 5), 2);
    }

    private static void starts() {
        OneLevelStore x = new OneLevelStore(3);
        Code.load(x, 0, 511, 1, 2);
        DUE.no("job -1", x.start(-1, 0, 1, 2));
        DUE.no("job 4", x.start(4, 0, 1, 2));
        DUE.no("limit 0", x.start(0, 0, 0, 2));
        DUE.no("limit 1000001", x.start(0, 0, 1000001, 2));
        DUE.no("blocks 0", x.start(1, 0, 1, 0));
        DUE.no("blocks 65", x.start(1, 0, 1, 65));
        DUE.no("fewer than it has", x.start(0, 0, 1, 1));
        DUE.is("it has not begun", x.job(0, 0), 0);
        DUE.yes("as many as it has", x.start(0, Integer.MIN_VALUE + 3, 1000000, 2));
        DUE.is("it is ready", x.job(0, 0), 1);
        DUE.is("its CONTROL", x.register(0, 127), 3);
        DUE.no("twice", x.start(0, 0, 1, 2));
        x = new OneLevelStore(3);
        DUE.yes("one block, one instruction", x.start(0, 0x800000, 1, 1));
        DUE.is("a CONTROL below 0", x.register(0, 127), Code.LEAST_HALF);
        x = new OneLevelStore(3);
        DUE.yes("64 blocks", x.start(2, 0, 1, 64));
        x.run(2);
        DUE.is("over", x.job(2, 0), 4);
        DUE.no("a job that is over has begun", x.start(2, 0, 1, 1));
    }

    private static void runs() {
        OneLevelStore x = new OneLevelStore(3);
        DUE.is("none", x.run(0), 0);
        DUE.is("below", x.run(-1), -1);
        DUE.is("above", x.run(2001), -1);
        DUE.is("most", x.run(2000), 2000);
        DUE.is("one", x.run(1), 2001);
        DUE.is("told", x.clock(0), 2001);
        DUE.is("idle", x.clock(2), 2001);
    }

    private static void jobs() {
        OneLevelStore x = new OneLevelStore(3);
        int[] first = {0, 0, 0, -1, 0, 0, 0, 0, -1};
        for (int what = 0; what <= 8; what++) {
            DUE.is("at first " + what, x.job(3, what), first[what]);
        }
        DUE.is("other", x.job(3, 9), -1);
        DUE.is("other", x.job(3, -1), -1);
        DUE.is("job 4", x.job(4, 0), -1);
        DUE.is("job -1", x.job(-1, 0), -1);
        Code.load(x, 3, 0, Code.of(0172, 0, 0, 1), Code.of(0324, 0, 0, 5120), Code.END);
        x.start(3, 0, 50, 3);
        DUE.is("ready", x.job(3, 0), 1);
        x.run(1);
        DUE.is("waits", x.job(3, 0), 2);
        DUE.is("for 0", x.job(3, 3), 0);
        x.run(289);
        DUE.is("T", x.job(3, 7), -1);
        DUE.is("waits", x.job(3, 0), 2);
        DUE.is("for 10", x.job(3, 3), 10);
        DUE.is("which is one of its BLOCKS", x.job(3, 4), 2);
        DUE.is("one done", x.job(3, 2), 1);
        DUE.is("CONTROL is as before", x.register(3, 127), 1);
        x.run(2);
        int[] last = {3, 0, 3, -1, 0, 0, 0, -1, 291};
        for (int what = 0; what <= 8; what++) {
            DUE.is("at last " + what, x.job(3, what), last[what]);
        }
    }

    private static void registersAndWords() {
        OneLevelStore x = new OneLevelStore(3);
        Code.load(x, 1, 0, Code.of(0121, 126, 0, -6), Code.of(0324, 0, 0, 4), Code.of(01066, 0, 0, 0),
            Code.of(0356, 0, 0, 700), 99, Code.END);
        Code.load(x, 1, 4, -99, Code.END);
        x.start(1, 0, 50, 3);
        DUE.is("a word on the drum", x.word(1, 4), -99);
        x.run(270);
        DUE.is("a word that comes", x.word(1, 4), -99);
        x.run(22);
        DUE.is("a word in the core", x.word(1, 4), -99);
        x.run(1);
        DUE.is("a word that was stored", x.word(1, 700), -99);
        DUE.is("B126", x.register(1, 126), -6);
        DUE.is("B128", x.register(1, 128), 0);
        DUE.is("B-1", x.register(1, -1), 0);
        DUE.is("no job", x.register(4, 126), 0);
        DUE.is("no job", x.register(-1, 126), 0);
        DUE.is("A", x.accumulator(1), -99);
        DUE.is("no job", x.accumulator(4), 0);
        DUE.is("no job", x.accumulator(-1), 0);
        DUE.is("paper", x.paper(1, 0), -99);
        DUE.is("no paper", x.paper(1, 1), 0);
        DUE.is("no paper", x.paper(1, -1), 0);
        DUE.is("no job", x.paper(4, 0), 0);
        DUE.is("no job", x.paper(-1, 0), 0);
        DUE.is("another job's word", x.word(0, 4), 0);
        DUE.is("no address", x.word(1, -1), 0);
        DUE.is("no address", x.word(1, 1048576), 0);
        DUE.is("no job", x.word(4, 4), 0);
        DUE.is("no job", x.word(-1, 4), 0);
        x.run(1);
        DUE.is("a word below 0 is no instruction", x.job(1, 1), 1);
        DUE.is("a word of a job that is over", x.word(1, 4), 0);
        DUE.is("its A", x.accumulator(1), -99);
        DUE.is("its B126", x.register(1, 126), -6);
    }

    private static void clocks() {
        OneLevelStore x = new OneLevelStore(3);
        for (int what = 0; what <= 5; what++) {
            DUE.is("clock " + what, x.clock(what), 0);
        }
        DUE.is("other", x.clock(6), -1);
        DUE.is("other", x.clock(-1), -1);
        Code.load(x, 0, 0, Code.jump(0));
        x.start(0, 0, 100, 1);
        Code.runTo(x, 388);
        DUE.is("ticks", x.clock(0), 388);
        DUE.is("instructions", x.clock(1), 100);
        DUE.is("idle", x.clock(2), 287);
        DUE.is("looks", x.clock(5), 1);
        x.run(2);
        DUE.is("the tick of a failure is not idle", x.clock(2), 288);
        DUE.is("instructions", x.clock(1), 100);
    }
}

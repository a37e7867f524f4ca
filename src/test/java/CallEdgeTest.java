/** Promises 4 to 6 and 19: the edges of what they take; where a call refuses, a twin tells that nothing was done. */
final class CallEdgeTest {
    private static final int MIN = Integer.MIN_VALUE;
    private static final int MAX = Integer.MAX_VALUE;
    private static final Due DUE = new Due();
    private static final Refusals REFUSALS = new Refusals(DUE);

    public static void main(String[] args) {
        tapeOfNothing();
        tapeBehindTape();
        tapeNoSuchJob();
        tapeOfJobThatIsOver();
        tapeIsFull();
        tapeHasRoomAgain();
        startAtAnyAddress();
        startNoSuchJob();
        startHasBegun();
        startLimits();
        startLimitIsKept();
        startBlocks();
        startFewerThanItHas();
        startTooManyWithOthers();
        runNumbers();
        runRefuses();
        forgetTrue();
        forgetNeedsWholePaper();
        forgetRefuses();
        forgetLeavesNothing();
        forgetManyTimes();
        forgetLeavesOthers();
        last512thCall();
        DUE.end();
    }

    private static void tapeOfNothing() {
        DUE.about("The words on the TRAY come behind those on the TAPE: how many lie there (the tray is empty)");
        OneLevelStore x = new OneLevelStore(3);
        DUE.is("none", x.tape(0), 0);
        Code.tape(x, 0, 1, 2);
        DUE.is("two, as before", x.tape(0), 2);
    }

    private static void tapeBehindTape() {
        DUE.about("The words on the TRAY come behind those on the TAPE of a job that is not over");
        OneLevelStore x = Lone.begun(100, 1, Code.of(01050, 0, 0, 0), Code.of(01066, 0, 0, 0), Code.jump(0));
        DUE.is("one that is READY", Code.tape(x, 0, 1, 2), 2);
        x.run(1);
        DUE.is("one that WAITS", Code.tape(x, 0, -3), 3);
        Code.runTo(x, 289);
        DUE.is("one was read", Code.tape(x, 0, 4), 3);
        DUE.is("one that has not begun", Code.tape(x, 1, 4), 1);
        x.run(20);
        DUE.is("it fails behind the last", x.job(0, 1), 4);
        long[] due = {1, 2, -3, 4};
        for (int i = 0; i < due.length; i++) {
            DUE.is("word " + i, x.paper(0, i), due[i]);
        }
        DUE.is("no more", x.job(0, 6), 4);
    }

    private static void tapeNoSuchJob() {
        DUE.about("NONE, doing nothing: no such job");
        REFUSALS.check("tape", Scenes::waiting, -1, x -> x.tape(-1), x -> x.tape(4), x -> x.tape(MIN),
            x -> x.tape(MAX));
    }

    private static void tapeOfJobThatIsOver() {
        DUE.about("on the TAPE of a job that is not over");
        REFUSALS.check("tape", Scenes::waiting, -1, x -> x.tape(1), x -> x.tape(2));
    }

    private static OneLevelStore withTape(int words) {
        OneLevelStore x = new OneLevelStore(3);
        for (int i = 0; i < words; i++) {
            x.key(i);
        }
        DUE.is("so many", x.tape(0), words);
        return x;
    }

    private static void tapeIsFull() {
        DUE.about("NONE, doing nothing: or there would be more than 500");
        OneLevelStore x = withTape(499);
        x.key(41);
        x.key(-42);
        DUE.is("501", x.tape(0), -1);
        DUE.is("the tape has 499 still", x.job(0, 5), 499);
        DUE.is("the tray has two still", x.key(43), 3);
        x.load(3, 0);
        DUE.is("the first", x.word(3, 0), 41);
        DUE.is("the second", x.word(3, 1), -42);
        x = withTape(499);
        DUE.is("500", Code.tape(x, 0, 5), 500);
        DUE.is("500 and none", x.tape(0), 500);
        x.key(6);
        DUE.is("500 and one", x.tape(0), -1);
        DUE.is("another tape has room", x.tape(1), 1);
    }

    private static void tapeHasRoomAgain() {
        DUE.about("or there would be more than 500 (words that were read are gone)");
        OneLevelStore x = withTape(500);
        Code.load(x, 0, 0, Code.of(01050, 0, 0, 0), Code.jump(1));
        x.start(0, 0, 100, 1);
        x.run(Lone.FIRST + 1);
        DUE.is("499 are left", x.job(0, 5), 499);
        x.key(7);
        DUE.is("one more", x.tape(0), 500);
        x.key(8);
        DUE.is("no more", x.tape(0), -1);
    }

    private static void startAtAnyAddress() {
        DUE.about("with its CONTROL at an address (any; its lowest 24 bits)");
        int[] addresses = {0, 1048575, 1048576, -1, 0x7FFFFF, 0x800000, 0xFFFFFF, 0x1000000, MIN, MIN + 3, MAX};
        int[] due = {0, 1048575, 1048576, -1, Code.GREATEST_HALF, Code.LEAST_HALF, -1, 0, 0, 3, -1};
        for (int i = 0; i < due.length; i++) {
            OneLevelStore x = new OneLevelStore(3);
            DUE.yes("start at " + addresses[i], x.start(2, addresses[i], 1, 1));
            DUE.is("its CONTROL", x.register(2, 127), due[i]);
            DUE.job("READY", x, 2, 1, 0, 0, -1, 0, 0, 0, 0, -1);
        }
    }

    private static long start(OneLevelStore x, int job, int limit, int blocks) {
        return x.start(job, 5, limit, blocks) ? 1 : 0;
    }

    private static void startNoSuchJob() {
        DUE.about("False, doing nothing: no such job");
        REFUSALS.check("start", Scenes::waiting, 0, x -> start(x, -1, 1, 1), x -> start(x, 4, 1, 1),
            x -> start(x, MIN, 1, 1), x -> start(x, MAX, 1, 1));
    }

    private static void startHasBegun() {
        DUE.about("False, doing nothing: it has begun");
        REFUSALS.check("start, one WAITS", Scenes::waiting, 0, x -> start(x, 0, 1, 3), x -> start(x, 1, 1, 1),
            x -> start(x, 2, 1, 1));
        REFUSALS.check("start, one is READY", Scenes::ready, 0, x -> start(x, 0, 1, 3));
    }

    private static void startLimits() {
        DUE.about("so many instructions as LIMIT (1 to 1,000,000); False, doing nothing: another number");
        REFUSALS.check("start", Scenes::waiting, 0, x -> start(x, 3, 0, 2), x -> start(x, 3, -1, 2),
            x -> start(x, 3, 1000001, 2), x -> start(x, 3, MIN, 2), x -> start(x, 3, MAX, 2));
        DUE.is("1", start(Scenes.waiting(), 3, 1, 2), 1);
        DUE.is("1,000,000", start(Scenes.waiting(), 3, 1000000, 2), 1);
    }

    /** The 1,000,001st instruction is due in tick 1,000,288: 501 calls of run(). */
    private static void startLimitIsKept() {
        DUE.about("so many instructions as LIMIT (1 to 1,000,000)");
        OneLevelStore x = Lone.begun(1000000, 1, Code.jump(0));
        for (int i = 0; i < 500; i++) {
            x.run(2000);
        }
        DUE.is("ticks", x.run(288), 1000288);
        DUE.is("all are done", x.job(0, 2), 1000000);
        DUE.is("it is READY", x.job(0, 0), 1);
        x.run(1);
        DUE.is("it has failed", x.job(0, 1), 7);
        DUE.is("all are done", x.clock(1), 1000000);
        DUE.is("looks", x.clock(5), 15625);
    }

    private static void startBlocks() {
        DUE.about("as many BLOCKS as it may have (1 to 64); False, doing nothing: another number");
        REFUSALS.check("start", () -> Scenes.ownBlocks(1, 5), 0, x -> start(x, 2, 1, 0), x -> start(x, 2, 1, -1),
            x -> start(x, 2, 1, 65), x -> start(x, 2, 1, MIN), x -> start(x, 2, 1, MAX), x -> start(x, 3, 1, 65));
        DUE.is("1", start(new OneLevelStore(3), 2, 1, 1), 1);
        DUE.is("64", start(new OneLevelStore(3), 2, 1, 64), 1);
        DUE.is("64, with one of them", start(Scenes.ownBlocks(1), 3, 1, 64), 1);
        DUE.is("64, with all of them", start(Scenes.ownBlocks(64), 3, 1, 64), 1);
    }

    private static void startFewerThanItHas() {
        DUE.about("as many BLOCKS as it may have (not fewer than it has)");
        REFUSALS.check("start", () -> Scenes.ownBlocks(5), 0, x -> start(x, 3, 1, 4), x -> start(x, 3, 1, 1));
        DUE.is("as it has", start(Scenes.ownBlocks(5), 3, 1, 5), 1);
        DUE.is("one more", start(Scenes.ownBlocks(5), 3, 1, 6), 1);
        REFUSALS.check("63 of 64", () -> Scenes.ownBlocks(64), 0, x -> start(x, 3, 1, 63));
    }

    /** 58 that job 0 may have, two that job 1 has, three that job 3 has; job 2 is over. */
    private static void startTooManyWithOthers() {
        DUE.about("False, doing nothing: or there would be more than 64 as at load()");
        REFUSALS.check("start", () -> Scenes.othersBegun(7), 0, x -> start(x, 3, 1, 5), x -> start(x, 1, 1, 4),
            x -> start(x, 3, 1, 64));
        DUE.is("58, 2 and 4", start(Scenes.othersBegun(), 3, 1, 4), 1);
        DUE.is("58, 3 and 3", start(Scenes.othersBegun(), 1, 1, 3), 1);
        OneLevelStore x = Scenes.othersBegun();
        start(x, 3, 1, 4);
        DUE.is("no more", start(x, 1, 1, 3), 0);
        DUE.is("those that it has", start(x, 1, 1, 2), 1);
        REFUSALS.check("20 of each of three", Scenes::othersNotBegun, 0, x1 -> start(x1, 0, 1, 22));
        DUE.is("20, 20, 3 and 21", start(Scenes.othersNotBegun(), 0, 1, 21), 1);
    }

    private static void runNumbers() {
        DUE.about("n TICKS (0 to 2,000): how many there were ever");
        OneLevelStore x = new OneLevelStore(3);
        DUE.is("none", x.run(0), 0);
        DUE.is("no tick", x.clock(2), 0);
        DUE.is("one", x.run(1), 1);
        DUE.is("most", x.run(2000), 2001);
        DUE.is("none", x.run(0), 2001);
        DUE.is("the clock", x.clock(0), 2001);
        DUE.is("all were IDLE", x.clock(2), 2001);
    }

    private static void runRefuses() {
        DUE.about("NONE for another n");
        REFUSALS.check("run", Scenes::ready, -1, x -> x.run(-1), x -> x.run(2001), x -> x.run(MIN),
            x -> x.run(MAX));
    }

    private static void forgetTrue() {
        DUE.about("A job that is over, and the whole PAPER of which was printed, has not begun, as at first: true");
        OneLevelStore x = Scenes.waiting();
        DUE.yes("one that has FAILED, without a paper", x.forget(2));
        DUE.job("as at first", x, 2, 0, 0, 0, -1, 0, 0, 0, 0, -1);
        Code.runTo(x, 160);
        DUE.yes("one that has ENDED, all of it printed", x.forget(1));
        DUE.job("as at first", x, 1, 0, 0, 0, -1, 0, 0, 0, 0, -1);
    }

    private static void forgetNeedsWholePaper() {
        DUE.about("and the whole PAPER of which was printed");
        OneLevelStore x = Scenes.waiting();
        Code.runTo(x, 159);
        DUE.is("two of three", x.clock(4), 2);
        DUE.no("not yet", x.forget(1));
        x.run(1);
        DUE.is("three of three", x.clock(4), 3);
        DUE.yes("now", x.forget(1));
    }

    private static long forget(OneLevelStore x, int job) {
        return x.forget(job) ? 1 : 0;
    }

    private static void forgetRefuses() {
        DUE.about("False: another one");
        REFUSALS.check("forget, one WAITS", Scenes::waiting, 0, x -> forget(x, 0), x -> forget(x, 1),
            x -> forget(x, 3), x -> forget(x, -1), x -> forget(x, 4), x -> forget(x, MIN), x -> forget(x, MAX));
        REFUSALS.check("forget, one is READY", Scenes::ready, 0, x -> forget(x, 0));
        OneLevelStore x = Scenes.waiting();
        x.forget(2);
        DUE.no("twice", x.forget(2));
    }

    private static void forgetLeavesNothing() {
        DUE.about("has not begun, as at first (its number can be had anew)");
        OneLevelStore x = new OneLevelStore(4);
        Code.tape(x, 0, 5, 6, 7);
        Code.load(x, 0, 0, Code.of(01050, 0, 0, 0), Code.of(01066, 0, 0, 0), Code.of(0121, 126, 0, 8),
            Code.of(0172, 0, 0, 1), Code.of(0356, 0, 0, 700), 0);
        x.start(0, 0, 100, 3);
        Code.runTo(x, 320);
        DUE.job("before", x, 0, 4, 1, 5, -1, 0, 2, 1, -1, 294);
        DUE.yes("forgotten", x.forget(0));
        DUE.job("as at first", x, 0, 0, 0, 0, -1, 0, 0, 0, 0, -1);
        DUE.is("A", x.accumulator(0), 0);
        DUE.is("B126", x.register(0, 126), 0);
        DUE.is("CONTROL", x.register(0, 127), 0);
        DUE.is("its paper", x.paper(0, 0), 0);
        DUE.is("what was printed stays", x.printed(0), 5);
        DUE.is("its words", x.word(0, 700), 0);
        DUE.is("it is loaded", Code.load(x, 0, 0, Code.of(0101, 5, 0, 700), Code.of(01050, 0, 0, 0)), 1);
        DUE.is("a word of before", x.word(0, 2), 0);
        DUE.yes("it begins", x.start(0, 0, 100, 2));
        Code.runTo(x, 700);
        DUE.job("no tape of before", x, 0, 4, 4, 1, -1, 0, 0, 0, 0, 546);
        DUE.is("no word of before", x.register(0, 5), 0);
    }

    private static void startWriter(OneLevelStore x, int job, long word) {
        Code.load(x, job, 0, Code.of(0324, 0, 0, 3), Code.of(01066, 0, 0, 0), Code.END, word);
        DUE.yes("begins", x.start(job, 0, 10, 1));
    }

    /** Each time one word is printed; at last all four jobs have one at the same time. */
    private static void forgetManyTimes() {
        DUE.about("(its number can be had anew)");
        OneLevelStore x = new OneLevelStore(6);
        for (int i = 0; i < 10; i++) {
            int job = i % 2 == 0 ? 1 : 3;
            startWriter(x, job, 500 + i);
            x.run(400);
            DUE.is("ended", x.job(job, 0), 3);
            DUE.is("printed", x.printed(0), 500 + i);
            DUE.is("so many", x.clock(4), i + 1);
            DUE.yes("forgotten", x.forget(job));
        }
        for (int job = 0; job < 4; job++) {
            startWriter(x, job, 600 + job);
        }
        x.run(1000);
        DUE.is("all are printed", x.clock(4), 14);
        DUE.is("one of each", x.printed(0) + x.printed(1) + x.printed(2) + x.printed(3), 2406);
        for (int job = 0; job < 4; job++) {
            DUE.yes("forgotten", x.forget(job));
        }
    }

    /** Job 2 has three words; one is printed in tick 79, two are not when the others are over, and forgotten. */
    private static void forgetLeavesOthers() {
        DUE.about("has not begun, as at first: true (no other has)");
        OneLevelStore x = new OneLevelStore(4);
        Code.load(x, 3, 0, 1);
        Code.load(x, 2, 0, Code.of(0324, 0, 0, 5), Code.of(01066, 0, 0, 0), Code.of(01066, 0, 0, 0),
            Code.of(01066, 0, 0, 0), Code.END, 8);
        x.start(2, 0, 10, 1);
        Code.runTo(x, 90);
        x.start(0, -1, 1, 1);
        x.start(1, -1, 1, 1);
        x.run(2);
        DUE.yes("the second that was over", x.forget(0));
        DUE.yes("the last that was over", x.forget(1));
        DUE.is("the first is over still", x.job(2, 8), 68);
        DUE.is("its paper", x.paper(2, 2), 8);
        Code.runTo(x, 160);
        DUE.is("it is printed", x.clock(4), 3);
        DUE.is("its word", x.printed(0), 8);
        DUE.yes("then it is forgotten", x.forget(2));
        DUE.is("job 3 has its word", x.word(3, 0), 1);
    }

    private static void last512thCall() {
        DUE.about("An object is used for at most 512 calls after it has been made");
        OneLevelStore x = new OneLevelStore(3);
        for (int i = 0; i < 510; i++) {
            x.key(i + 1);
        }
        DUE.is("the 511th", x.load(2, 2), 1);
        DUE.is("the 512th", x.word(2, 511), 510);
        x = new OneLevelStore(3);
        for (int i = 0; i < 511; i++) {
            x.run(2000);
        }
        DUE.is("the most ticks", x.run(2000), 1024000);
    }
}

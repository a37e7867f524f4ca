/** Promises 17 and 19: the printer's order and its ticks, and a job's number that can be had anew. */
final class PrinterTest {
    private static final Due DUE = new Due();

    public static void main(String[] args) {
        order();
        sameTick();
        nothingToPrint();
        fourHundredKept();
        forgetsAll();
        forgetRefusals();
        DUE.end();
    }

    /** Puts the words 1, 2, .. on its paper, and ends. */
    private static void loadCounter(OneLevelStore x, int job, int words) {
        Code.load(x, job, 0, Code.of(0121, 1, 0, words - 1), Code.of(0320, 0, 0, 6), Code.of(01066, 0, 0, 0),
            Code.of(0203, 127, 1, 1), Code.END, 0, 1);
    }

    /** Job 1 is over in tick 95, with 10 words; job 0 in tick 290, with one. */
    private static void order() {
        OneLevelStore x = new OneLevelStore(4);
        Code.load(x, 0, 0, Code.of(0324, 0, 0, 3), Code.of(01066, 0, 0, 0), Code.END, 77);
        loadCounter(x, 1, 10);
        x.start(0, 0, 100, 1);
        x.start(1, 0, 100, 1);
        Code.runTo(x, 119);
        DUE.is("1 is over", x.job(1, 8), 95);
        DUE.is("nothing yet", x.clock(4), 0);
        DUE.no("so it can not be forgotten", x.forget(1));
        x.run(1);
        DUE.is("the first word", x.printed(0), 1);
        DUE.is("one", x.clock(4), 1);
        Code.runTo(x, 479);
        DUE.is("0 is over", x.job(0, 8), 290);
        DUE.is("nine", x.clock(4), 9);
        DUE.no("1 has one more", x.forget(1));
        x.run(1);
        DUE.is("the tenth", x.printed(0), 10);
        DUE.is("the ninth", x.printed(1), 9);
        DUE.no("0 has one", x.forget(0));
        DUE.yes("1 has none", x.forget(1));
        Code.runTo(x, 520);
        DUE.is("the word of 0", x.printed(0), 77);
        DUE.is("before it", x.printed(1), 10);
        DUE.is("the earliest", x.printed(10), 1);
        DUE.is("none such", x.printed(11), 0);
        DUE.is("none such", x.printed(-1), 0);
        DUE.is("eleven", x.clock(4), 11);
        DUE.yes("0 has none", x.forget(0));
        Code.runTo(x, 600);
        DUE.is("eleven", x.clock(4), 11);
    }

    /** The job is over in tick 319, the printer prints in it. */
    private static void sameTick() {
        OneLevelStore x = new OneLevelStore(4);
        Code.load(x, 0, 0, Code.of(01066, 0, 0, 0), Code.of(0121, 1, 0, 28), Code.of(0203, 127, 1, 2), Code.END);
        x.start(0, 0, 100, 1);
        Code.runTo(x, 319);
        DUE.is("of a job that is not over nothing is printed", x.clock(4), 0);
        x.run(1);
        DUE.is("over", x.job(0, 8), 319);
        DUE.is("printed", x.clock(4), 1);
    }

    private static void nothingToPrint() {
        OneLevelStore x = new OneLevelStore(4);
        x.start(0, -1, 100, 1);
        x.run(1);
        DUE.is("failed", x.job(0, 0), 4);
        DUE.yes("no paper, so all of it was printed", x.forget(0));
        x.run(100);
        DUE.is("nothing", x.clock(4), 0);
        DUE.is("nothing", x.printed(0), 0);
    }

    private static void fourHundredKept() {
        OneLevelStore x = new OneLevelStore(4);
        for (int job = 0; job < 3; job++) {
            loadCounter(x, job, 200);
            x.start(job, 0, 10000, 1);
        }
        Code.runTo(x, 30000);
        DUE.is("all", x.clock(4), 600);
        DUE.is("the latest", x.printed(0), 200);
        DUE.is("before the job before", x.printed(399), 1);
        DUE.is("one more is not kept", x.printed(400), 0);
    }

    private static void forgetsAll() {
        OneLevelStore x = new OneLevelStore(4);
        Code.tape(x, 2, 5, 6);
        Code.load(x, 2, 0, Code.of(0121, 9, 0, 8), Code.of(01050, 0, 0, 0), Code.of(0172, 0, 0, 1),
            Code.of(01066, 0, 0, 0), Code.of(0777, 0, 0, 0));
        x.start(2, 0, 100, 1);
        Code.runTo(x, 320);
        DUE.is("failed", x.job(2, 1), 1);
        DUE.is("printed", x.printed(0), 5);
        DUE.yes("forgotten", x.forget(2));
        int[] first = {0, 0, 0, -1, 0, 0, 0, 0, -1};
        for (int what = 0; what <= 8; what++) {
            DUE.is("as at first " + what, x.job(2, what), first[what]);
        }
        DUE.is("A", x.accumulator(2), 0);
        DUE.is("B9", x.register(2, 9), 0);
        DUE.is("B127", x.register(2, 127), 0);
        DUE.is("paper", x.paper(2, 0), 0);
        DUE.is("printed still", x.printed(0), 5);
        DUE.no("twice", x.forget(2));
        loadCounter(x, 2, 2);
        DUE.is("no old word", x.word(2, 7), 0);
        DUE.yes("begins anew", x.start(2, 0, 100, 1));
        Code.runTo(x, 1000);
        DUE.is("ended", x.job(2, 0), 3);
        DUE.is("its paper", x.paper(2, 1), 2);
        DUE.is("printed", x.printed(0), 2);
        DUE.is("three", x.clock(4), 3);
        DUE.yes("forgotten again", x.forget(2));
    }

    private static void forgetRefusals() {
        OneLevelStore x = new OneLevelStore(4);
        DUE.no("no job", x.forget(-1));
        DUE.no("no job", x.forget(4));
        DUE.no("not begun", x.forget(0));
        x.start(0, 0, 1, 1);
        DUE.no("ready", x.forget(0));
        x.run(1);
        DUE.no("waits", x.forget(0));
        DUE.is("and waits still", x.job(0, 0), 2);
    }
}

/** Step 5 of a tick, promises 17 and 19: the printer's ticks and order, and a number that can be had anew. */
final class PrinterTest {
    private static final Due DUE = new Due();

    public static void main(String[] args) {
        printerTicks();
        printerOrder();
        printerOrderAnew();
        printerPassesEmptyPapers();
        printerPassesJobsThatAreNotOver();
        latestFirst();
        sameTick();
        nothingToPrint();
        forgetsAll();
        DUE.end();
    }

    private static void printerTicks() {
        DUE.about("When n + 1 is divisible by 40: the PRINTER prints the first word that it has not printed");
        OneLevelStore x = new OneLevelStore(4);
        Scenes.fill(x, 1);
        Code.load(x, 0, 0, Code.of(01066, 0, 0, 0), Code.of(0324, 0, 0, 0), Code.of(01066, 0, 0, 0), Code.END);
        x.start(0, 0, 10, 1);
        Code.runTo(x, 79);
        DUE.is("it is over", x.job(0, 8), 67);
        DUE.is("none before tick 79", x.clock(4), 0);
        x.run(1);
        DUE.is("one in tick 79", x.clock(4), 1);
        DUE.is("the first", x.printed(0), 0);
        Code.runTo(x, 119);
        DUE.is("one still", x.clock(4), 1);
        x.run(1);
        DUE.is("two in tick 119", x.clock(4), 2);
        DUE.is("the second", x.printed(0), Code.of(01066, 0, 0, 0) << 16 >> 16);
        Code.runTo(x, 200);
        DUE.is("no more", x.clock(4), 2);
    }

    /** Puts its number on its paper, twice, and ends. */
    private static void loadWriter(OneLevelStore x, int job) {
        Code.load(x, job, 0, Code.of(0324, 0, 0, 4), Code.of(01066, 0, 0, 0), Code.of(01066, 0, 0, 0), Code.END,
            100 + job);
    }

    /** The places 1, 2, 3 of the jobs 2, 0, 1 are read in this order; they are over in the ticks 67, 99, 131. */
    private static void printerOrder() {
        DUE.about("of the PAPERS of jobs that are over, in the order in which they were over");
        OneLevelStore x = new OneLevelStore(4);
        Scenes.fill(x, 1);
        int[] order = {2, 0, 1};
        for (int job : order) {
            loadWriter(x, job);
            x.start(job, 0, 10, 1);
        }
        Code.runTo(x, 132);
        for (int i = 0; i < 3; i++) {
            DUE.is("over", x.job(order[i], 8), 67 + 32 * i);
        }
        Code.runTo(x, 280);
        DUE.is("six words", x.clock(4), 6);
        for (int i = 0; i < 6; i++) {
            DUE.is("word " + i, x.printed(5 - i), 100 + order[i / 2]);
        }
    }

    /** Puts so many multiples of a number on its paper, and ends. */
    private static void startCounter(OneLevelStore x, int job, int words, int number) {
        Code.load(x, job, 0, Code.of(0121, 1, 0, words - 1), Code.of(0320, 0, 0, 5), Code.of(01066, 0, 0, 0),
            Code.of(0203, 127, 1, 1), Code.END, number);
        x.start(job, 0, 1000, 1);
    }

    /**
     * The jobs 0 and 1 are over without a paper, then job 2 with 15 words, which are printed till tick 679; then 0 and
     * 1 begin anew, one after the other, and are over before that.
     */
    private static void printerOrderAnew() {
        DUE.about("in the order in which they were over (a number that was had anew)");
        OneLevelStore x = new OneLevelStore(4);
        Scenes.fill(x, 1);
        x.start(0, -1, 1, 1);
        x.start(1, -1, 1, 1);
        startCounter(x, 2, 15, 1);
        Code.runTo(x, 120);
        DUE.is("2 is over", x.job(2, 0), 3);
        DUE.yes("0 is forgotten", x.forget(0));
        startCounter(x, 0, 2, 100);
        Code.runTo(x, 400);
        DUE.is("0 is over", x.job(0, 0), 3);
        DUE.yes("1 is forgotten", x.forget(1));
        startCounter(x, 1, 2, 1000);
        Code.runTo(x, 680);
        DUE.is("1 is over", x.job(1, 0), 3);
        DUE.is("all of 2 is printed", x.clock(4), 15);
        DUE.is("its last", x.printed(0), 15);
        Code.runTo(x, 1000);
        long[] due = {2000, 1000, 200, 100, 15, 14};
        DUE.is("all are printed", x.clock(4), 19);
        for (int i = 0; i < due.length; i++) {
            DUE.is("printed " + i, x.printed(i), due[i]);
        }
    }

    private static void printerPassesEmptyPapers() {
        DUE.about("the first word that it has not printed of the PAPERS of jobs that are over");
        OneLevelStore x = new OneLevelStore(4);
        x.start(0, -1, 10, 1);
        x.start(1, -1, 10, 1);
        loadWriter(x, 2);
        x.start(2, 0, 10, 1);
        Code.runTo(x, 320);
        DUE.is("two without a paper are over", x.job(0, 0) + x.job(1, 0), 8);
        DUE.is("the third is printed", x.printed(0), 102);
        DUE.is("one", x.clock(4), 1);
    }

    /** Its number was over before, without a paper; now it has a word on it, and goes round. */
    private static void printerPassesJobsThatAreNotOver() {
        DUE.about("of the PAPERS of jobs that are over (not of others)");
        OneLevelStore x = new OneLevelStore(4);
        x.start(0, -1, 10, 1);
        x.run(1);
        DUE.yes("forgotten", x.forget(0));
        Code.load(x, 0, 0, Code.of(01066, 0, 0, 0), Code.jump(1));
        x.start(0, 0, 1000, 1);
        Code.runTo(x, 1000);
        DUE.is("a word is on its paper", x.job(0, 6), 1);
        DUE.is("none is printed", x.clock(4), 0);
        Code.runTo(x, 1320);
        DUE.is("it has failed", x.job(0, 1), 7);
        DUE.is("one is printed", x.clock(4), 1);
    }

    /** Puts the words 1, 2, .. on its paper, and ends. */
    private static void loadCounter(OneLevelStore x, int job, int words) {
        Code.load(x, job, 0, Code.of(0121, 1, 0, words - 1), Code.of(0320, 0, 0, 6), Code.of(01066, 0, 0, 0),
            Code.of(0203, 127, 1, 1), Code.END, 0, 1);
    }

    /** Job 1 is over in tick 95, with 10 words; job 0 in tick 290, with one. */
    private static void latestFirst() {
        DUE.about("The i-th latest word that the PRINTER printed (0: the latest)");
        OneLevelStore x = new OneLevelStore(4);
        Code.load(x, 0, 0, Code.of(0324, 0, 0, 3), Code.of(01066, 0, 0, 0), Code.END, 77);
        loadCounter(x, 1, 10);
        x.start(0, 0, 100, 1);
        x.start(1, 0, 100, 1);
        Code.runTo(x, 119);
        DUE.is("1 is over", x.job(1, 8), 95);
        DUE.is("nothing yet", x.clock(4), 0);
        DUE.no("so it can not be forgotten", x.forget(1));
        x.run(1);
        DUE.is("the first word", x.printed(0), 1);
        DUE.is("one", x.clock(4), 1);
        Code.runTo(x, 479);
        DUE.is("0 is over", x.job(0, 8), 290);
        DUE.is("nine", x.clock(4), 9);
        DUE.no("1 has one more", x.forget(1));
        x.run(1);
        DUE.is("the tenth", x.printed(0), 10);
        DUE.is("the ninth", x.printed(1), 9);
        DUE.no("0 has one", x.forget(0));
        DUE.yes("1 has none", x.forget(1));
        Code.runTo(x, 520);
        DUE.is("the word of 0", x.printed(0), 77);
        DUE.is("before it", x.printed(1), 10);
        DUE.is("the earliest", x.printed(10), 1);
        DUE.is("none such", x.printed(11), 0);
        DUE.is("none such", x.printed(-1), 0);
        DUE.is("eleven", x.clock(4), 11);
        DUE.yes("0 has none", x.forget(0));
        Code.runTo(x, 600);
        DUE.is("eleven", x.clock(4), 11);
    }

    /** The job is over in tick 319, the printer prints in it. */
    private static void sameTick() {
        DUE.about("3. The READY job has ENDED by it. 5. the PRINTER prints the first word");
        OneLevelStore x = new OneLevelStore(4);
        Code.load(x, 0, 0, Code.of(01066, 0, 0, 0), Code.of(0121, 1, 0, 28), Code.of(0203, 127, 1, 2), Code.END);
        x.start(0, 0, 100, 1);
        Code.runTo(x, 319);
        DUE.is("of a job that is not over nothing is printed", x.clock(4), 0);
        x.run(1);
        DUE.is("over", x.job(0, 8), 319);
        DUE.is("printed", x.clock(4), 1);
    }

    private static void nothingToPrint() {
        DUE.about("A job that is over, and the whole PAPER of which was printed (it has none)");
        OneLevelStore x = new OneLevelStore(4);
        x.start(0, -1, 100, 1);
        x.run(1);
        DUE.is("failed", x.job(0, 0), 4);
        DUE.yes("no paper, so all of it was printed", x.forget(0));
        x.run(100);
        DUE.is("nothing", x.clock(4), 0);
        DUE.is("nothing", x.printed(0), 0);
    }

    private static void forgetsAll() {
        DUE.about("has not begun, as at first (its number can be had anew): true");
        OneLevelStore x = new OneLevelStore(4);
        Code.tape(x, 2, 5, 6);
        Code.load(x, 2, 0, Code.of(0121, 9, 0, 8), Code.of(01050, 0, 0, 0), Code.of(0172, 0, 0, 1),
            Code.of(01066, 0, 0, 0), Code.of(0777, 0, 0, 0));
        x.start(2, 0, 100, 1);
        Code.runTo(x, 320);
        DUE.is("failed", x.job(2, 1), 1);
        DUE.is("printed", x.printed(0), 5);
        DUE.yes("forgotten", x.forget(2));
        int[] first = {0, 0, 0, -1, 0, 0, 0, 0, -1};
        for (int what = 0; what <= 8; what++) {
            DUE.is("as at first " + what, x.job(2, what), first[what]);
        }
        DUE.is("A", x.accumulator(2), 0);
        DUE.is("B9", x.register(2, 9), 0);
        DUE.is("B127", x.register(2, 127), 0);
        DUE.is("paper", x.paper(2, 0), 0);
        DUE.is("printed still", x.printed(0), 5);
        DUE.no("twice", x.forget(2));
        loadCounter(x, 2, 2);
        DUE.is("no old word", x.word(2, 7), 0);
        DUE.yes("begins anew", x.start(2, 0, 100, 1));
        Code.runTo(x, 1000);
        DUE.is("ended", x.job(2, 0), 3);
        DUE.is("its paper", x.paper(2, 1), 2);
        DUE.is("printed", x.printed(0), 2);
        DUE.is("three", x.clock(4), 3);
        DUE.yes("forgotten again", x.forget(2));
    }
}

/** Promises 12 to 18: what is told of the core, the drum and the printer, at the edges, and of none such. */
final class StoreAnswersEdgeTest {
    private static final int MIN = Integer.MIN_VALUE;
    private static final int MAX = Integer.MAX_VALUE;
    private static final Due DUE = new Due();

    public static void main(String[] args) {
        frameEmpty();
        frameComing();
        frameGoing();
        frameOthers();
        places();
        placesOthers();
        drumNoneUnderWay();
        drumTicks();
        drumReadAndWrite();
        drumOthers();
        queued();
        queuedNoneSuch();
        chosenNoneSuch();
        chosen64AreKept();
        chosenNumbers();
        printedNoneSuch();
        printed400AreKept();
        clocks();
        clocksOthers();
        askingChangesNothing();
        DUE.end();
    }

    private static void frameEmpty() {
        DUE.about("0 EMPTY (0); unless it is EMPTY: 1 the job, 2 the block, ..");
        OneLevelStore x = Lone.begun(5, 2, Code.END);
        DUE.frame("never used", x, 0, 0, -1, -1, -1, -1, -1, -1);
        Code.runTo(x, 289);
        DUE.frame("used before", x, 0, 0, -1, -1, -1, -1, -1, -1);
    }

    private static void frameComing() {
        DUE.about("(3 to 6 of a COMING one: 0)");
        OneLevelStore x = new OneLevelStore(3);
        Code.load(x, 3, 1048575, Code.END);
        x.start(3, 1048575, 5, 1);
        x.run(2);
        DUE.frame("queued", x, 0, 2, 3, 2047, 0, 0, 0, 0);
        Code.runTo(x, 257);
        DUE.frame("under way", x, 0, 2, 3, 2047, 0, 0, 0, 0);
        x = Scenes.sweeps();
        Code.runTo(x, 353);
        DUE.frame("that had a MARK when it went", x, 0, 2, 2, 0, 0, 0, 0, 0);
    }

    private static void frameGoing() {
        DUE.about("(of a GOING one as it was)");
        OneLevelStore x = Schedule.begun(4, "XY", "X", "XY", "X", "Z");
        Code.runTo(x, Schedule.tickOf(257, 3) + 1);
        DUE.frame("t and L", x, 2, 3, 0, 2, 1, 1, 0, 0);
        Code.runTo(x, 577);
        DUE.frame("under way", x, 2, 3, 0, 2, 1, 1, 0, 0);
        x = Scenes.sweeps();
        Code.runTo(x, 292);
        DUE.frame("MARK", x, 0, 3, 2, 0, 0, 0, 1, 0);
        Code.runTo(x, 352);
        DUE.frame("MARK, at the end", x, 0, 3, 2, 0, 0, 0, 1, 0);
        x = new OneLevelStore(3);
        for (int job = 0; job < 3; job++) {
            Code.load(x, job, 0, Code.END);
            x.start(job, 0, 10, 1);
        }
        Code.runTo(x, 65);
        DUE.frame("FRESH", x, 1, 3, 1, 0, 0, 0, 0, 1);
    }

    private static void frameOthers() {
        DUE.about("NONE for others (frame)");
        OneLevelStore x = Lone.begun(500, 2, Code.jump(0));
        Code.runTo(x, 290);
        int[] none = {-1, 7, MIN, MAX};
        for (int what : none) {
            DUE.is("what " + what, x.frame(0, what), -1);
            DUE.is("what " + what + " of an EMPTY one", x.frame(3, what), -1);
        }
        int[] frames = {-1, 4, 16, MIN, MAX};
        for (int frame : frames) {
            for (int what = 0; what <= 6; what++) {
                DUE.is("frame " + frame + ", " + what, x.frame(frame, what), -1);
            }
        }
    }

    private static void places() {
        DUE.about("0 the job, 1 the block that it is for. NONE when it is free");
        OneLevelStore x = new OneLevelStore(3);
        for (int i = 0; i < 64; i++) {
            Code.load(x, i % 4, 512 * (2047 - i), i);
        }
        for (int i = 0; i < 64; i++) {
            DUE.is("job of " + i, x.place(i, 0), i % 4);
            DUE.is("block of " + i, x.place(i, 1), 2047 - i);
        }
        x = new OneLevelStore(3);
        DUE.is("a free one, job", x.place(0, 0), -1);
        DUE.is("a free one, block", x.place(63, 1), -1);
    }

    private static void placesOthers() {
        DUE.about("NONE when it is free, and for others (place)");
        OneLevelStore x = new OneLevelStore(3);
        Code.load(x, 0, 0, 1);
        int[] none = {-1, 2, MIN, MAX};
        for (int what : none) {
            DUE.is("what " + what, x.place(0, what), -1);
        }
        int[] places = {-1, 64, MIN, MAX};
        for (int place : places) {
            DUE.is("place " + place + ", job", x.place(place, 0), -1);
            DUE.is("place " + place + ", block", x.place(place, 1), -1);
        }
    }

    private static void drumNoneUnderWay() {
        DUE.about("(each NONE when none is)");
        OneLevelStore x = Lone.begun(5, 1, Code.jump(0));
        DUE.drum("at first", x, -1, -1, -1, -1, 0, 0, 0);
        x.run(2);
        DUE.drum("one is queued", x, -1, -1, -1, -1, 1, 0, 0);
        Code.runTo(x, 289);
        DUE.drum("one has ended", x, -1, -1, -1, -1, 0, 1, 0);
    }

    private static void drumTicks() {
        DUE.about("3 ticks that it takes still: 32 less those since it began, that in which it did too");
        OneLevelStore x = Lone.begun(5, 1, Code.END);
        Code.runTo(x, 256);
        for (int left = 31; left >= 0; left--) {
            x.run(1);
            DUE.is("left", x.drum(3), left);
        }
        x.run(1);
        DUE.is("none is", x.drum(3), -1);
    }

    private static void drumReadAndWrite() {
        DUE.about("2 whether it is a WRITE (1; 0); 5 READS, 6 WRITES that have ENDED");
        OneLevelStore x = Scenes.sweeps();
        Code.runTo(x, 257);
        DUE.drum("a READ", x, 0, 0, 0, 31, 0, 0, 0);
        Code.runTo(x, 321);
        DUE.drum("a WRITE", x, 0, 2, 1, 31, 0, 1, 0);
        Code.runTo(x, 352);
        DUE.drum("a WRITE, not ENDED", x, 0, 2, 1, 0, 0, 1, 0);
        x.run(1);
        DUE.drum("ENDED", x, -1, -1, -1, -1, 2, 1, 1);
    }

    private static void drumOthers() {
        DUE.about("NONE for others (drum)");
        OneLevelStore x = Scenes.sweeps();
        Code.runTo(x, 257);
        int[] none = {-1, 7, MIN, MAX};
        for (int what : none) {
            DUE.is("what " + what, x.drum(what), -1);
        }
        Code.runTo(x, 300);
        for (int what : none) {
            DUE.is("what " + what + ", none under way", x.drum(what), -1);
        }
    }

    private static OneLevelStore fourJobs() {
        OneLevelStore x = new OneLevelStore(6);
        for (int job = 0; job < 4; job++) {
            Code.load(x, job, 0, Code.END);
            x.start(job, 0, 5, 1);
        }
        x.run(5);
        return x;
    }

    private static void queued() {
        DUE.about("The frame of the i-th one in the QUEUE");
        OneLevelStore x = fourJobs();
        DUE.is("four", x.drum(4), 4);
        for (int i = 0; i < 4; i++) {
            DUE.is("queued " + i, x.queued(i), i);
        }
        Code.runTo(x, 33);
        int[] due = {0, 2, 3, -1};
        DUE.is("one is under way", x.drum(4), 3);
        for (int i = 0; i < 4; i++) {
            DUE.is("queued " + i + " then", x.queued(i), due[i]);
        }
    }

    private static void queuedNoneSuch() {
        DUE.about("(NONE when there is none such) (queued)");
        OneLevelStore x = fourJobs();
        int[] none = {-1, 4, 15, 16, 17, MIN, MAX};
        for (int i : none) {
            DUE.is("queued " + i, x.queued(i), -1);
        }
        DUE.is("an empty one", new OneLevelStore(3).queued(0), -1);
    }

    private static void chosenNoneSuch() {
        DUE.about("NONE when there is none such (chosen)");
        OneLevelStore x = Scenes.sweeps();
        Code.runTo(x, 291);
        DUE.is("none yet", x.chosen(0), -1);
        Code.runTo(x, 353);
        DUE.is("the latest", x.chosen(0), 4097);
        DUE.is("before it", x.chosen(1), 4096);
        int[] none = {2, 63, 64, -1, MIN, MAX};
        for (int i : none) {
            DUE.is("chosen " + i, x.chosen(i), -1);
        }
    }

    /** Notes what was CHOSEN soon after it was, every 200 ticks, and asks for it again at the end. */
    private static void chosen64AreKept() {
        DUE.about("The i-th latest CHOSEN (0: the latest; 64 are kept)");
        OneLevelStore x = new OneLevelStore(3);
        Code.load(x, 1, 0, Code.of(0324, 0, 1, 512), Code.of(0124, 1, 0, 512), Code.jump(0));
        x.start(1, 0, 1000000, 63);
        int[] noted = new int[100];
        int count = 0;
        for (int i = 0; i < 100 && count < 66; i++) {
            x.run(200);
            int all = x.clock(3);
            while (count < all) {
                noted[count] = x.chosen(all - 1 - count);
                count++;
            }
        }
        DUE.yes("more than are kept", count >= 66);
        for (int i = 0; i < 64; i++) {
            DUE.is("chosen " + i, x.chosen(i), noted[count - 1 - i]);
        }
        DUE.is("the 65th is not kept", x.chosen(64), -1);
        DUE.is("nor the 66th", x.chosen(65), -1);
    }

    private static void chosenNumbers() {
        DUE.about("2048 * job + block");
        OneLevelStore x = new OneLevelStore(3);
        Code.load(x, 3, 1048064, Code.of(0324, 0, 0, 0), Code.of(0324, 0, 0, 512), Code.END);
        x.start(3, 1048064, 100, 4);
        Code.runTo(x, 292);
        DUE.is("the last block of the last job", x.chosen(0), 8191);
        x = new OneLevelStore(3);
        Code.load(x, 0, 0, Code.of(0324, 0, 0, 512), Code.of(0324, 0, 0, 1024), Code.END);
        x.start(0, 0, 100, 4);
        Code.runTo(x, 292);
        DUE.is("the first block of the first job", x.chosen(0), 0);
        DUE.is("one", x.clock(3), 1);
    }

    private static void printedNoneSuch() {
        DUE.about("0 when there is none such (printed)");
        OneLevelStore x = Lone.begun(5, 1, Code.of(0324, 0, 0, 3), Code.of(01066, 0, 0, 0), Code.END, -9);
        Code.runTo(x, 319);
        DUE.is("none yet", x.printed(0), 0);
        x.run(1);
        DUE.is("the latest", x.printed(0), -9);
        int[] none = {1, 399, 400, -1, MIN, MAX};
        for (int i : none) {
            DUE.is("printed " + i, x.printed(i), 0);
        }
    }

    /** Three papers, of 200, 200 and 3 words: the first three words of the first are not kept. */
    private static void printed400AreKept() {
        DUE.about("The i-th latest word that the PRINTER printed (0: the latest; 400 are kept)");
        OneLevelStore x = new OneLevelStore(4);
        int[] words = {200, 200, 3};
        for (int job = 0; job < 3; job++) {
            Code.load(x, job, 0, Code.of(0121, 1, 0, words[job] - 1), Code.of(0320, 0, 0, 5), Code.of(01066, 0, 0, 0),
                Code.of(0203, 127, 1, 1), Code.END, 1 + job);
            x.start(job, 0, 10000, 1);
            x.run(2000);
        }
        for (int i = 0; i < 8; i++) {
            x.run(2000);
        }
        DUE.is("all are printed", x.clock(4), 403);
        for (int i = 0; i < 400; i++) {
            int at = 402 - i;
            int job = at / 200;
            DUE.is("printed " + i, x.printed(i), (long) (at % 200 + 1) * (1 + job));
        }
        DUE.is("one more is not kept", x.printed(400), 0);
        DUE.is("nor is the first", x.printed(402), 0);
    }

    private static void clocks() {
        DUE.about("0 ticks, 1 instructions, 2 IDLE ticks, 3 how many were CHOSEN, 4 words printed, 5 LOOKS");
        OneLevelStore x = Scenes.sweeps();
        Code.runTo(x, 1000);
        int[] due = {1000, 4, 990, 4, 0, 0};
        for (int what = 0; what <= 5; what++) {
            DUE.is("clock " + what, x.clock(what), due[what]);
        }
    }

    private static void clocksOthers() {
        DUE.about("NONE for others (clock)");
        OneLevelStore x = Scenes.sweeps();
        Code.runTo(x, 300);
        int[] none = {-1, 6, MIN, MAX};
        for (int what : none) {
            DUE.is("clock " + what, x.clock(what), -1);
        }
    }

    private static void askingChangesNothing() {
        DUE.about("(a call that tells does nothing)");
        OneLevelStore asked = Scenes.sweeps();
        OneLevelStore left = Scenes.sweeps();
        Code.runTo(asked, 353);
        Code.runTo(left, 353);
        Sight.of(asked);
        asked.run(300);
        left.run(300);
        for (int what = 0; what <= 5; what++) {
            DUE.is("clock " + what, asked.clock(what), left.clock(what));
        }
        for (int frame = 0; frame < 3; frame++) {
            for (int what = 0; what <= 6; what++) {
                DUE.is("frame " + frame + ", " + what, asked.frame(frame, what), left.frame(frame, what));
            }
        }
    }
}

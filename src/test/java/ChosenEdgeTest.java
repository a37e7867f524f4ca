/** PART 2, the rule by which a frame is CHOSEN: each part of it, where one ends and the next begins, and its ties. */
final class ChosenEdgeTest {
    private static final Due DUE = new Due();

    public static void main(String[] args) {
        tAboveLPlusOne();
        tAboveLPlusOneWithL();
        greatestTOfThese();
        greatestTNotGreatestExcess();
        greatestTOfTheseAlone();
        lowestOfTheSameT();
        greatestDifference();
        greatestDifferenceNotGreatestL();
        differenceBelowZero();
        differenceOfThoseWithLAlone();
        lowestOfTheSameDifference();
        greatestTOfAll();
        lowestOfAll();
        freshOneStays();
        freshOneWithGreaterTStays();
        allAreFresh();
        onlyOneIsFresh();
        goingBehindTheQueue();
        DUE.end();
    }

    /**
     * X is in frame 1, Y in frame 2, the code in frame 0 (t and L 0); block 3 has the last frame, the first thing in
     * the last window. Before that X and Y are to have these t and L.
     */
    private static void chosen(int due, int[] idle, String... windows) {
        OneLevelStore x = Schedule.begun(4, windows);
        int tick = Schedule.tickOf(64 * (windows.length - 1) + 1, 3);
        Code.runTo(x, tick);
        DUE.frame("X before", x, 1, 1, 0, 1, idle[0], idle[1], 0, 0);
        DUE.frame("Y before", x, 2, 1, 0, 2, idle[2], idle[3], 0, 0);
        DUE.is("none is CHOSEN before", x.clock(3), 0);
        x.run(1);
        DUE.is("one is CHOSEN", x.clock(3), 1);
        DUE.is("its block", x.chosen(0), due);
        DUE.is("it is GOING", x.frame(due, 0), 3);
    }

    private static int[] idle(int... timesOfXAndY) {
        return timesOfXAndY;
    }

    private static void tAboveLPlusOne() {
        DUE.about("if there are some with t above L + 1, of these the one with the greatest t");
        chosen(2, idle(1, 0, 0, 1), "XY", "XY", "X", "Y", "Z");
        chosen(1, idle(2, 0, 0, 1), "XY", "XY", "XY", "", "Y", "Z");
    }

    private static void tAboveLPlusOneWithL() {
        DUE.about("if there are some with t above L + 1 (L above 0)");
        chosen(2, idle(2, 1, 0, 2), "XY", "Y", "X", "", "Y", "Z");
        chosen(1, idle(3, 1, 0, 2), "XY", "Y", "X", "", "Y", "Y", "Z");
    }

    private static void greatestTOfThese() {
        DUE.about("of these the one with the greatest t");
        chosen(2, idle(2, 0, 3, 0), "XY", "X", "", "", "Z");
        chosen(1, idle(3, 0, 2, 0), "XY", "Y", "", "", "Z");
    }

    private static void greatestTNotGreatestExcess() {
        DUE.about("of these the one with the greatest t (whatever its L)");
        chosen(2, idle(4, 0, 5, 2), "XY", "X", "X", "XY", "X", "", "", "", "", "Z");
    }

    private static void greatestTOfTheseAlone() {
        DUE.about("of these (t above L + 1) the one with the greatest t");
        chosen(2, idle(3, 5, 2, 0), "XY", "Y", "Y", "Y", "Y", "Y", "XY", "Y", "", "", "Z");
    }

    private static void lowestOfTheSameT() {
        DUE.about("the one with the greatest t; of several the lowest");
        chosen(1, idle(2, 0, 2, 0), "XY", "", "", "Z");
        chosen(1, idle(3, 0, 3, 1), "XY", "X", "XY", "", "", "", "Z");
        chosen(1, idle(3, 1, 3, 0), "XY", "Y", "XY", "", "", "", "Z");
    }

    private static void greatestDifference() {
        DUE.about("else, if there are some with L above 0, of these the one with the greatest L - t");
        chosen(2, idle(0, 1, 0, 2), "XY", "X", "", "XY", "Z");
        chosen(1, idle(0, 2, 0, 1), "XY", "Y", "", "XY", "Z");
        chosen(2, idle(1, 2, 0, 2), "XY", "Y", "", "X", "Y", "Z");
    }

    private static void greatestDifferenceNotGreatestL() {
        DUE.about("of these the one with the greatest L - t (not L)");
        chosen(2, idle(2, 3, 0, 2), "XY", "Y", "Y", "Y", "X", "", "Y", "Z");
        chosen(1, idle(0, 2, 2, 3), "XY", "X", "X", "X", "Y", "", "X", "Z");
    }

    private static void differenceBelowZero() {
        DUE.about("of these the one with the greatest L - t (below 0 too)");
        chosen(2, idle(1, 0, 2, 1), "XY", "X", "XY", "X", "", "Z");
        chosen(2, idle(2, 1, 1, 1), "XY", "Y", "X", "Y", "", "Z");
        chosen(1, idle(2, 1, 2, 1), "XY", "", "XY", "", "", "Z");
    }

    private static void differenceOfThoseWithLAlone() {
        DUE.about("if there are some with L above 0, of these");
        chosen(2, idle(1, 0, 1, 1), "XY", "X", "XY", "", "Z");
        chosen(1, idle(1, 1, 1, 0), "XY", "Y", "XY", "", "Z");
    }

    private static void lowestOfTheSameDifference() {
        DUE.about("the one with the greatest L - t; of several the lowest");
        chosen(1, idle(0, 1, 1, 2), "XY", "X", "X", "Y", "X", "Z");
        chosen(1, idle(1, 2, 0, 1), "XY", "Y", "Y", "X", "Y", "Z");
        chosen(1, idle(0, 1, 0, 1), "XY", "", "XY", "Z");
    }

    private static void greatestTOfAll() {
        DUE.about("else the one with the greatest t");
        chosen(2, idle(0, 0, 1, 0), "XY", "X", "Z");
        chosen(1, idle(1, 0, 0, 0), "XY", "Y", "Z");
    }

    private static void lowestOfAll() {
        DUE.about("else the one with the greatest t; of several the lowest");
        chosen(1, idle(1, 0, 1, 0), "XY", "", "Z");
        chosen(0, idle(0, 0, 0, 0), "XY", "Z");
    }

    /** Frame 1 has block 3 since tick 640, FRESH, and is lower than frame 2: the rule passes it by in tick 672. */
    private static void freshOneStays() {
        DUE.about("CHOSEN is, of the frames IN USE that are not FRESH");
        OneLevelStore x = Scenes.sweeps();
        Code.runTo(x, 673);
        DUE.frame("FRESH", x, 1, 1, 2, 3, 0, 0, 0, 1);
        DUE.frame("not FRESH", x, 2, 3, 2, 2, 0, 0, 1, 0);
        DUE.is("its block", x.chosen(0), 4098);
    }

    /**
     * Frame 0 is of job 2, and FRESH since tick 384; frame 1 is of job 1, which goes round from tick 288 on. The look
     * in tick 414 leaves frame 0 with t 1, frame 1 with t 0. In tick 421 job 0 has the last frame.
     */
    private static void freshOneWithGreaterTStays() {
        DUE.about("of the frames IN USE that are not FRESH (whatever their t)");
        OneLevelStore x = new OneLevelStore(3);
        Code.load(x, 1, 0, Code.jump(0));
        Code.load(x, 2, 0, Code.of(0324, 0, 0, 512), Code.of(0324, 0, 0, 1024), Code.END);
        x.start(2, 0, 100, 3);
        Code.runTo(x, 200);
        x.start(1, 0, 1000, 1);
        Code.runTo(x, 420);
        DUE.frame("FRESH, with t 1", x, 0, 1, 2, 0, 1, 0, 0, 1);
        DUE.frame("not FRESH, with t 0", x, 1, 1, 1, 0, 0, 0, 1, 0);
        DUE.frame("EMPTY", x, 2, 0);
        x.start(0, 0, 10, 1);
        int before = x.clock(3);
        x.run(2);
        DUE.is("one is CHOSEN", x.clock(3), before + 1);
        DUE.is("that of job 1", x.chosen(0), 2048);
    }

    /** In tick 421 frame 0 is COMING; frames 1 (new) and 2 (block 2, unused) are IN USE, and both are FRESH. */
    private static void allAreFresh() {
        DUE.about("(of all, when all are)");
        OneLevelStore x = Scenes.sweeps();
        Code.runTo(x, 420);
        DUE.frame("COMING", x, 0, 2, 2, 0);
        DUE.frame("EMPTY", x, 1, 0);
        DUE.frame("FRESH", x, 2, 1, 2, 2, 0, 0, 0, 1);
        x.start(1, 600, 10, 1);
        x.run(2);
        DUE.frame("the lowest of both goes", x, 1, 3, 1, 1, 0, 0, 0, 1);
        DUE.is("its block", x.chosen(0), 2049);
        DUE.is("its job waits for it again", x.job(1, 3), 1);
    }

    /** Three jobs have three frames; the first that comes is FRESH, and no other is IN USE. */
    private static void onlyOneIsFresh() {
        DUE.about("(of all, when all are): the only one");
        OneLevelStore x = new OneLevelStore(3);
        for (int job = 0; job < 3; job++) {
            Code.load(x, job, 0, Code.END);
            x.start(job, 0, 10, 1);
        }
        Code.runTo(x, 65);
        DUE.frame("FRESH, and GOING", x, 1, 3, 1, 0, 0, 0, 0, 1);
        DUE.is("its block", x.chosen(0), 2048);
        DUE.is("its job waits again", x.job(1, 0), 2);
        DUE.is("and did nothing", x.clock(1), 0);
        Code.runTo(x, 2000);
        for (int job = 0; job < 3; job++) {
            DUE.is("in the end", x.job(job, 0), 3);
        }
    }

    private static void goingBehindTheQueue() {
        DUE.about("is CHOSEN: it is GOING, and a WRITE of it comes behind the QUEUE");
        OneLevelStore x = Scenes.sweeps();
        Code.runTo(x, 353);
        DUE.drum("a READ and the WRITE", x, -1, -1, -1, -1, 2, 1, 1);
        DUE.is("the READ is first", x.queued(0), 0);
        DUE.is("the WRITE is behind", x.queued(1), 1);
        DUE.frame("it is GOING", x, 1, 3, 2, 1, 0, 0, 1, 0);
    }
}

import java.util.Arrays;

/** What can be asked of a machine without changing it; some 300 calls, so that 200 of the 512 are left. */
final class Sight {
    private static final int[] REGISTERS = {0, 1, 5, 127};
    private static final int[] ADDRESSES = {0, 1, 511, 512, 1024, 1048575};
    private static final int[] PAPERS = {0, 1, 199};

    private final long[] answers = new long[400];
    private int count;

    private Sight() {
    }

    static long[] of(OneLevelStore x) {
        Sight sight = new Sight();
        for (int job = 0; job < 4; job++) {
            sight.addJob(x, job);
        }
        sight.addCore(x);
        sight.addDrum(x);
        for (int i = 0; i < 6; i++) {
            sight.add(x.clock(i));
        }
        for (int i = 0; i < 3; i++) {
            sight.add(x.chosen(i));
            sight.add(x.printed(i));
        }
        return Arrays.copyOf(sight.answers, sight.count);
    }

    private void add(long answer) {
        answers[count] = answer;
        count++;
    }

    private void addJob(OneLevelStore x, int job) {
        for (int what = 0; what <= 8; what++) {
            add(x.job(job, what));
        }
        for (int b : REGISTERS) {
            add(x.register(job, b));
        }
        add(x.accumulator(job));
        for (int address : ADDRESSES) {
            add(x.word(job, address));
        }
        for (int i : PAPERS) {
            add(x.paper(job, i));
        }
    }

    private void addCore(OneLevelStore x) {
        for (int frame = 0; frame < 16; frame++) {
            add(x.frame(frame, 0));
        }
        for (int frame = 0; frame < 4; frame++) {
            for (int what = 1; what <= 6; what++) {
                add(x.frame(frame, what));
            }
        }
    }

    private void addDrum(OneLevelStore x) {
        for (int place = 0; place < 64; place++) {
            add(x.place(place, 0));
            add(x.place(place, 1));
        }
        for (int what = 0; what <= 6; what++) {
            add(x.drum(what));
        }
        for (int i = 0; i < 4; i++) {
            add(x.queued(i));
        }
    }
}

import java.util.Random;

/**
 * Compares the class with the plain model in many runs that a fixed seed tells. Each object has the 512 calls that the
 * document promises, and no more: some do things, the others ask, at random.
 */
final class RandomRunsTest {
    private static final int RUNS = 2500;
    private static final int CALLS = 512;
    private static final int ASKS_BETWEEN = 4;
    private static final int MOST_WRONG = 20;

    private final Due due = new Due();
    private Random random;
    private OneLevelStore x;
    private PlainModel model;
    private int left;
    private String where;

    public static void main(String[] args) {
        RandomRunsTest test = new RandomRunsTest();
        int runs = args.length > 0 ? Integer.parseInt(args[0]) : RUNS;
        int seed = args.length > 1 ? Integer.parseInt(args[1]) : 1;
        for (int i = 0; i < runs && test.due.wrong() < MOST_WRONG; i++) {
            test.oneRun(seed + i);
        }
        test.due.end();
    }

    private void oneRun(int seed) {
        random = new Random(seed);
        int frames = random.nextInt(3) == 0 ? random.nextInt(20) - 1 : 3 + random.nextInt(4);
        x = new OneLevelStore(frames);
        model = new PlainModel(frames);
        left = CALLS;
        where = "seed " + seed + ": ";
        int kept = random.nextBoolean() ? 40 : 200;
        while (left > kept && due.wrong() < MOST_WRONG) {
            oneCall();
            for (int i = random.nextInt(ASKS_BETWEEN); i > 0; i--) {
                ask();
            }
        }
        while (left > 0 && due.wrong() < MOST_WRONG) {
            ask();
        }
    }

    /** Counts a call, unless all are used up. */
    private boolean may() {
        left--;
        return left >= 0;
    }

    private void compare(String call, long got, long want) {
        due.is(where + call + " (" + left + " calls left)", got, want);
    }

    private void oneCall() {
        int job = random.nextInt(30) == 0 ? random.nextInt() : random.nextInt(4);
        switch (random.nextInt(12)) {
            case 0:
            case 1:
                loadAndStart(job);
                break;
            case 2:
                loadWords(job);
                break;
            case 3:
                tapeWords(job);
                break;
            case 4:
            case 5:
                forget(job);
                break;
            case 6:
                run(random.nextInt(4));
                break;
            case 7:
                run(random.nextInt(40) == 0 ? random.nextInt() : 1000 + random.nextInt(1001));
                break;
            default:
                run(random.nextInt(random.nextBoolean() ? 40 : 500));
                break;
        }
    }

    private void run(int n) {
        if (may()) {
            compare("run " + n, x.run(n), model.run(n));
        }
    }

    private void forget(int job) {
        if (may()) {
            compare("forget " + job, x.forget(job) ? 1 : 0, model.forget(job) ? 1 : 0);
        }
    }

    private void load(int job, int address) {
        if (may()) {
            compare("load " + job + " " + address, x.load(job, address), model.load(job, address));
        }
    }

    private void keyWords(long... words) {
        for (long word : words) {
            if (may()) {
                compare("key", x.key(word), model.key(word));
            }
        }
    }

    private void loadAndStart(int job) {
        int blocks = 1 + random.nextInt(12);
        int origin = 512 * random.nextInt(3) + random.nextInt(2) * 500;
        keyWords(new RandomProgram(random, blocks, origin).words());
        load(job, origin);
        if (random.nextInt(4) == 0) {
            loadWords(job);
        }
        int limit = random.nextInt(5) == 0 ? random.nextInt(300) - 5 : 1 + random.nextInt(1000000);
        int most = random.nextInt(8) == 0 ? random.nextInt(70) - 1 : blocks + 1 + random.nextInt(6);
        if (may()) {
            compare("start " + job, x.start(job, origin, limit, most) ? 1 : 0,
                model.start(job, origin, limit, most) ? 1 : 0);
        }
    }

    private void loadWords(int job) {
        int count = random.nextInt(30) == 0 ? random.nextInt(150) : random.nextInt(6);
        for (int i = 0; i < count; i++) {
            keyWords(random.nextBoolean() ? random.nextLong() : random.nextInt(2000) - 700);
        }
        load(job, random.nextInt(8) == 0 ? 1048576 - random.nextInt(10) : random.nextInt(6000));
    }

    private void tapeWords(int job) {
        int count = random.nextInt(10);
        for (int i = 0; i < count; i++) {
            keyWords(random.nextLong() >> random.nextInt(64));
        }
        if (may()) {
            compare("tape " + job, x.tape(job), model.tape(job));
        }
    }

    /** A number from 0 on, or one on either side of that, or any at all. */
    private int number(int below) {
        return random.nextInt(200) == 0 ? random.nextInt() : random.nextInt(below + 2) - 1;
    }

    private void ask() {
        if (!may()) {
            return;
        }
        if (random.nextBoolean()) {
            askOfJob(number(4));
        } else {
            askOfStores();
        }
    }

    private void askOfJob(int j) {
        int i = number(20);
        int address = random.nextInt(7000);
        switch (random.nextInt(8)) {
            case 0: compare("register " + j + " " + i, x.register(j, i), model.register(j, i)); break;
            case 1: compare("register " + j + " 127", x.register(j, 127), model.register(j, 127)); break;
            case 2: compare("accumulator " + j, x.accumulator(j), model.accumulator(j)); break;
            case 3: compare("word " + j + " " + address, x.word(j, address), model.word(j, address)); break;
            case 4: compare("paper " + j + " " + i, x.paper(j, i), model.paper(j, i)); break;
            default:
                int what = number(9);
                compare("job " + j + " " + what, x.job(j, what), model.job(j, what));
                break;
        }
    }

    private void askOfStores() {
        int i = number(5);
        int what = number(7);
        switch (random.nextInt(9)) {
            case 0: compare("queued " + i, x.queued(i), model.queued(i)); break;
            case 1: compare("chosen " + i, x.chosen(i), model.chosen(i)); break;
            case 2: compare("printed " + i, x.printed(i), model.printed(i)); break;
            case 3: compare("clock " + what, x.clock(what), model.clock(what)); break;
            case 4: compare("drum " + what, x.drum(what), model.drum(what)); break;
            case 5:
            case 6:
                int place = random.nextInt(3) == 0 ? number(64) : number(16);
                compare("place " + place + " " + i, x.place(place, i % 3), model.place(place, i % 3));
                break;
            default:
                int frame = random.nextInt(4) == 0 ? number(16) : number(4);
                compare("frame " + frame + " " + what, x.frame(frame, what), model.frame(frame, what));
                break;
        }
    }
}

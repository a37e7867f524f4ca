import java.util.Random;

/** Compares the class with the plain model, after every call of many runs that a fixed seed tells. */
final class RandomRunsTest {
    private static final int RUNS = 400;
    private static final int CALLS = 60;
    private static final int MOST_WRONG = 20;

    private final Due due = new Due();
    private Random random;
    private OneLevelStore x;
    private PlainModel model;
    private String where;

    public static void main(String[] args) {
        RandomRunsTest test = new RandomRunsTest();
        int runs = args.length > 0 ? Integer.parseInt(args[0]) : RUNS;
        int seed = args.length > 1 ? Integer.parseInt(args[1]) : 1;
        for (int i = 0; i < runs && test.due.wrong() < MOST_WRONG; i++) {
            test.oneRun(seed + i);
        }
        test.due.end();
    }

    private void oneRun(int seed) {
        random = new Random(seed);
        int frames = random.nextInt(3) == 0 ? random.nextInt(20) - 1 : 3 + random.nextInt(4);
        x = new OneLevelStore(frames);
        model = new PlainModel(frames);
        for (int i = 0; i < CALLS && due.wrong() < MOST_WRONG; i++) {
            where = "seed " + seed + ", call " + i + ": ";
            oneCall();
            compareJobs();
            compareStores();
        }
    }

    private void oneCall() {
        int job = random.nextInt(30) == 0 ? random.nextInt() : random.nextInt(4);
        switch (random.nextInt(12)) {
            case 0:
            case 1:
                loadAndStart(job);
                break;
            case 2:
                loadWords(job);
                break;
            case 3:
                tapeWords(job);
                break;
            case 4:
            case 5:
                due.is(where + "forget " + job, x.forget(job) ? 1 : 0, model.forget(job) ? 1 : 0);
                break;
            case 6:
                runSome(random.nextInt(4));
                break;
            case 7:
                runSome(random.nextInt(40) == 0 ? random.nextInt() : 1000 + random.nextInt(1001));
                break;
            default:
                runSome(random.nextInt(random.nextBoolean() ? 40 : 500));
                break;
        }
    }

    private void runSome(int n) {
        due.is(where + "run " + n, x.run(n), model.run(n));
    }

    private void keyWords(long... words) {
        for (long word : words) {
            due.is(where + "key", x.key(word), model.key(word));
        }
    }

    private void loadAndStart(int job) {
        int blocks = 1 + random.nextInt(12);
        int origin = 512 * random.nextInt(3) + random.nextInt(2) * 500;
        keyWords(new RandomProgram(random, blocks, origin).words());
        due.is(where + "load " + job + " " + origin, x.load(job, origin), model.load(job, origin));
        if (random.nextBoolean()) {
            loadWords(job);
        }
        int limit = random.nextInt(5) == 0 ? random.nextInt(300) - 5 : 1 + random.nextInt(1000000);
        int may = random.nextInt(8) == 0 ? random.nextInt(70) - 1 : blocks + 1 + random.nextInt(6);
        due.is(where + "start " + job, x.start(job, origin, limit, may) ? 1 : 0,
            model.start(job, origin, limit, may) ? 1 : 0);
    }

    private void loadWords(int job) {
        int count = random.nextInt(10) == 0 ? random.nextInt(600) : random.nextInt(20);
        for (int i = 0; i < count; i++) {
            keyWords(random.nextBoolean() ? random.nextLong() : random.nextInt(2000) - 700);
        }
        int address = random.nextInt(8) == 0 ? 1048576 - random.nextInt(40) : random.nextInt(6000);
        due.is(where + "load " + job + " " + address, x.load(job, address), model.load(job, address));
    }

    private void tapeWords(int job) {
        int count = random.nextInt(40);
        for (int i = 0; i < count; i++) {
            keyWords(random.nextLong() >> random.nextInt(64));
        }
        due.is(where + "tape " + job, x.tape(job), model.tape(job));
    }

    private void compareJobs() {
        for (int j = -1; j <= 4; j++) {
            for (int what = -1; what <= 9; what++) {
                due.is(where + "job " + j + " " + what, x.job(j, what), model.job(j, what));
            }
            for (int b = -1; b <= 6; b++) {
                due.is(where + "register " + j + " " + b, x.register(j, b), model.register(j, b));
            }
            due.is(where + "register " + j + " 127", x.register(j, 127), model.register(j, 127));
            due.is(where + "accumulator " + j, x.accumulator(j), model.accumulator(j));
            for (int i = 0; i < 20; i++) {
                int address = random.nextInt(7000);
                due.is(where + "word " + j + " " + address, x.word(j, address), model.word(j, address));
                due.is(where + "paper " + j + " " + i, x.paper(j, i - 1), model.paper(j, i - 1));
            }
        }
    }

    private void compareStores() {
        for (int i = -1; i <= 16; i++) {
            for (int what = -1; what <= 7; what++) {
                due.is(where + "frame " + i + " " + what, x.frame(i, what), model.frame(i, what));
            }
            due.is(where + "queued " + i, x.queued(i), model.queued(i));
            due.is(where + "drum " + i, x.drum(i), model.drum(i));
            due.is(where + "clock " + i, x.clock(i), model.clock(i));
            due.is(where + "printed " + i, x.printed(i), model.printed(i));
        }
        for (int i = -1; i <= 66; i++) {
            for (int what = -1; what <= 2; what++) {
                due.is(where + "place " + i + " " + what, x.place(i, what), model.place(i, what));
            }
            due.is(where + "chosen " + i, x.chosen(i), model.chosen(i));
        }
    }
}

import java.util.ArrayList;
import java.util.List;
import java.util.Random;

/** Programs made of sweeps over blocks, delays, printing, reading and loose instructions. */
final class RandomProgram {
    private static final int[] FUNCTIONS = {
        0101, 0102, 0104, 0106, 0107, 0113, 0114, 0152, 0120, 0121, 0122, 0124, 0126, 0127, 0172, 0200, 0203,
        0214, 0215, 0216, 0217, 0224, 0225, 0226, 0227, 0234, 0235, 0236, 0237, 0320, 0321, 0322, 0324, 0325,
        0346, 0356, 0362, 0374, 0364, 0365, 01050, 01066, 01104, 01121, 01300};
    private static final int[] TOUCHES = {0324, 0356, 0320, 0321, 0101, 0113, 0114, 0346};

    private final Random random;
    private final int blocks;
    private final int origin;
    private final List<Long> words = new ArrayList<>();

    RandomProgram(Random random, int blocks, int origin) {
        this.random = random;
        this.blocks = blocks;
        this.origin = origin;
        int pieces = 1 + random.nextInt(7);
        for (int i = 0; i < pieces; i++) {
            addPiece();
        }
        if (random.nextInt(3) == 0) {
            words.add(Code.END);
        } else {
            words.add(Code.jump(origin));
        }
    }

    long[] words() {
        return words.stream().mapToLong(Long::longValue).toArray();
    }

    private void addPiece() {
        switch (random.nextInt(7)) {
            case 0:
            case 1:
                addSweep();
                break;
            case 2:
                addDelay();
                break;
            case 3:
                words.add(Code.of(01066, 0, 0, 0));
                break;
            case 4:
                words.add(Code.of(01050, 0, 0, 0));
                break;
            default:
                addLoose(1 + random.nextInt(6));
                break;
        }
    }

    private void addSweep() {
        words.add(Code.of(0121, 1, 0, 1 + random.nextInt(2 * blocks)));
        words.add(Code.of(0121, 2, 0, random.nextInt(512)));
        int top = origin + words.size();
        words.add(Code.of(TOUCHES[random.nextInt(TOUCHES.length)], 0, 2, 512 * random.nextInt(blocks)));
        words.add(Code.of(0124, 2, 0, 1 + random.nextInt(700)));
        words.add(Code.of(0203, 127, 1, top));
    }

    private void addDelay() {
        words.add(Code.of(0121, 1, 0, 1 + random.nextInt(300)));
        words.add(Code.of(0203, 127, 1, origin + words.size()));
    }

    private void addLoose(int count) {
        for (int i = 0; i < count; i++) {
            int f = FUNCTIONS[random.nextInt(FUNCTIONS.length)];
            int a = random.nextInt(25) == 0 ? 127 : random.nextInt(6);
            int m = random.nextInt(25) == 0 ? 127 : random.nextInt(3) == 0 ? random.nextInt(6) : 0;
            int n = random.nextInt(10) == 0 ? random.nextInt() : 512 * random.nextInt(blocks) + random.nextInt(600);
            words.add(Code.of(f, a, m, n));
        }
    }
}

import java.util.ArrayList;
import java.util.List;

/**
 * Programs whose use of blocks is told by texts, one for each 64 instructions, so that a LOOK is behind each: the
 * letters tell the blocks used in it, once each and in order (X block 1, Y 2, Z 3, V 4, W 5); the rest of the 64 does
 * nothing, where a point stands, or at the end. The job is 0, and runs alone.
 */
final class Schedule {
    private static final String LETTERS = "XYZVW";

    private final List<Long> words = new ArrayList<>();

    private Schedule() {
    }

    /** A machine whose job has begun; at the end of its program it goes round. */
    static OneLevelStore begun(int frames, String... windows) {
        Schedule schedule = new Schedule();
        for (String window : windows) {
            schedule.addWindow(window.contains(".") ? window : window + ".");
        }
        schedule.words.add(Code.jump(schedule.words.size()));
        OneLevelStore x = new OneLevelStore(frames);
        for (long word : schedule.words) {
            x.key(word);
        }
        x.load(0, 0);
        x.start(0, 0, 100000, 8);
        return x;
    }

    /** The tick in which an instruction is done, if so many new blocks were waited for, a tick each. */
    static int tickOf(int instruction, int blocks) {
        return Lone.FIRST + instruction - 1 + blocks;
    }

    private void addWindow(String window) {
        int used = window.length() - 1;
        for (char letter : window.toCharArray()) {
            if (letter == '.') {
                words.add(Code.of(0121, 1, 0, 62 - used));
                words.add(Code.of(0203, 127, 1, words.size()));
            } else {
                words.add(Code.of(0324, 0, 0, 512 * (1 + LETTERS.indexOf(letter))));
            }
        }
    }
}

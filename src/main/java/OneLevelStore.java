import java.util.Arrays;

/** A machine with a small core and a drum whose jobs see one store each. */
public final class OneLevelStore {
    public static final int NONE = -1;

    private static final int JOBS = 4;
    private static final int ADDRESSES = 1048576;
    private static final int BLOCK_WORDS = 512;
    private static final int MOST_BLOCKS = 64;
    private static final int MOST_TICKS = 2000;
    private static final int MOST_LIMIT = 1000000;
    private static final int TRAY_ROOM = 1000;
    private static final int TAPE_ROOM = 500;
    private static final int PAPER_ROOM = 200;
    private static final int CHOSEN_KEPT = 64;
    private static final int PRINTED_KEPT = 400;

    private static final int FEWEST_FRAMES = 3;
    private static final int MOST_FRAMES = 16;
    private static final int PLACES = 64;
    private static final int SECTORS = 8;
    private static final int TRANSFER_TICKS = 32;
    private static final int LOOK_INSTRUCTIONS = 64;
    private static final int PRINT_TICKS = 40;
    private static final int CHOSEN_JOB = 2048;

    private static final int REGISTERS = 128;
    private static final int CONTROL = 127;
    private static final long WORD_BITS = 0xFFFFFFFFFFFFL;
    private static final long GREATEST_ROOT = 11863283L;

    // What a job is.
    private static final int NOT_BEGUN = 0;
    private static final int READY = 1;
    private static final int WAITING = 2;
    private static final int ENDED = 3;
    private static final int FAILED = 4;

    // What a frame is.
    private static final int EMPTY = 0;
    private static final int IN_USE = 1;
    private static final int COMING = 2;
    private static final int GOING = 3;

    // What comes of an instruction: a number by which its job fails, or one of the three below 1.
    private static final int DONE = 0;
    private static final int HELD_UP = -1;
    private static final int LAST = -2;
    private static final int NO_FUNCTION = 1;
    private static final int NO_ADDRESS = 2;
    private static final int NO_BLOCK = 3;
    private static final int NO_TAPE = 4;
    private static final int NO_NUMBER = 5;
    private static final int NO_PAPER = 6;
    private static final int NO_TIME = 7;

    private final Row tray = new Row(TRAY_ROOM);
    private final Row latestChosen = new Row(CHOSEN_KEPT);
    private final Job[] jobs = new Job[JOBS];
    private final Pages pages = new Pages();
    private final Core core;
    private final Drum drumStore = new Drum();
    private final Printer printer = new Printer();
    private final Processor processor;
    private int ticks;
    private int instructions;
    private int idleTicks;
    private int choices;
    private int looks;

    public OneLevelStore(int frames) {
        core = new Core(Math.max(FEWEST_FRAMES, Math.min(MOST_FRAMES, frames)));
        processor = new Processor(core, pages);
        for (int i = 0; i < jobs.length; i++) {
            jobs[i] = new Job(i);
        }
    }

    public int key(long word) {
        return tray.append(cutToWord(word)) ? tray.size() : NONE;
    }

    public int load(int job, int address) {
        Job owner = jobOf(job);
        if (owner == null || owner.state != NOT_BEGUN || !isAddress(address)
                || tray.size() > ADDRESSES - address) {
            return NONE;
        }
        int added = countNewBlocks(owner, address);
        if (reservedBesides(owner) + owner.blocks + added > MOST_BLOCKS || drumStore.countFree() < added) {
            return NONE;
        }
        int size = tray.size();
        Page page = null;
        for (int i = 0; i < size; i++) {
            int at = address + i;
            if (page == null || page.block != at / BLOCK_WORDS) {
                page = pageToLoad(owner, at / BLOCK_WORDS);
            }
            if (page != null) {
                page.putWord(at % BLOCK_WORDS, tray.at(i));
            }
        }
        tray.clear();
        return owner.blocks;
    }

    public int tape(int job) {
        Job owner = jobOf(job);
        if (owner == null || owner.isOver() || tray.size() > owner.tapeWords.room()) {
            return NONE;
        }
        int size = tray.size();
        for (int i = 0; i < size; i++) {
            owner.tapeWords.append(tray.at(i));
        }
        tray.clear();
        return owner.tapeWords.size();
    }

    public boolean start(int job, int address, int limit, int blocks) {
        Job owner = jobOf(job);
        if (owner == null || owner.state != NOT_BEGUN || limit < 1 || limit > MOST_LIMIT
                || blocks < 1 || blocks > MOST_BLOCKS || blocks < owner.blocks
                || reservedBesides(owner) + blocks > MOST_BLOCKS) {
            return false;
        }
        owner.begin(address, limit, blocks);
        return true;
    }

    public int run(int n) {
        if (n < 0 || n > MOST_TICKS) {
            return NONE;
        }
        for (int i = 0; i < n; i++) {
            tick();
        }
        return ticks;
    }

    public int job(int job, int what) {
        Job owner = jobOf(job);
        return owner == null ? NONE : owner.tell(what);
    }

    public int register(int job, int b) {
        Job owner = jobOf(job);
        return owner == null ? 0 : owner.getB(b);
    }

    public long accumulator(int job) {
        Job owner = jobOf(job);
        return owner == null ? 0 : owner.a;
    }

    public long word(int job, int address) {
        if (jobOf(job) == null || !isAddress(address)) {
            return 0;
        }
        Page page = pages.find(job, address / BLOCK_WORDS);
        return page == null ? 0 : page.wordAt(address % BLOCK_WORDS);
    }

    public long paper(int job, int i) {
        Job owner = jobOf(job);
        return owner == null ? 0 : owner.paperWords.at(i);
    }

    public int frame(int frame, int what) {
        Frame told = core.frameOf(frame);
        return told == null ? NONE : told.tell(what);
    }

    public int place(int place, int what) {
        Place told = drumStore.placeOf(place);
        if (told == null || !told.taken) {
            return NONE;
        }
        switch (what) {
            case 0: return told.owner;
            case 1: return told.block;
            default: return NONE;
        }
    }

    public int drum(int what) {
        return drumStore.tell(what, ticks);
    }

    public int queued(int i) {
        Frame told = drumStore.queuedFrame(i);
        return told == null ? NONE : told.number;
    }

    public int chosen(int i) {
        return i < 0 || i >= latestChosen.size() ? NONE : (int) latestChosen.fromEnd(i);
    }

    public long printed(int i) {
        return printer.latest.fromEnd(i);
    }

    public int clock(int what) {
        switch (what) {
            case 0: return ticks;
            case 1: return instructions;
            case 2: return idleTicks;
            case 3: return choices;
            case 4: return printer.words;
            case 5: return looks;
            default: return NONE;
        }
    }

    public boolean forget(int job) {
        Job owner = jobOf(job);
        if (owner == null || !owner.isOver() || !owner.isPrinted()) {
            return false;
        }
        printer.drop(owner);
        owner.reset();
        return true;
    }

    private Job jobOf(int number) {
        return number < 0 || number >= jobs.length ? null : jobs[number];
    }

    /** The blocks that all jobs but one have a right to. */
    private int reservedBesides(Job owner) {
        int sum = 0;
        for (int i = 0; i < jobs.length; i++) {
            if (jobs[i] != owner) {
                sum += jobs[i].reserved();
            }
        }
        return sum;
    }

    private int countNewBlocks(Job owner, int address) {
        if (tray.size() == 0) {
            return 0;
        }
        int count = 0;
        int lastBlock = (address + tray.size() - 1) / BLOCK_WORDS;
        for (int block = address / BLOCK_WORDS; block <= lastBlock; block++) {
            if (pages.find(owner.number, block) == null) {
                count++;
            }
        }
        return count;
    }

    private Page pageToLoad(Job owner, int block) {
        Page page = pages.find(owner.number, block);
        if (page != null) {
            return page;
        }
        Place place = drumStore.lowestFree();
        page = place == null ? null : pages.hold(owner.number, block);
        if (page != null) {
            owner.blocks++;
            place.take(page);
        }
        return page;
    }

    private void tick() {
        if (ticks % TRANSFER_TICKS == 0) {
            drumStore.endTransfer();
            drumStore.beginTransfer(ticks);
        }
        wakeJobs();
        findFrames();
        keepFrameEmpty();
        Job job = firstReady();
        if (job == null) {
            idleTicks++;
        } else {
            settle(job, processor.step(job));
        }
        if ((ticks + 1) % PRINT_TICKS == 0) {
            printer.printNext();
        }
        ticks++;
    }

    private void wakeJobs() {
        for (int i = 0; i < jobs.length; i++) {
            Job job = jobs[i];
            if (job.state == WAITING && job.wanted != null && job.wanted.isInUse()) {
                job.wake();
            }
        }
    }

    private void findFrames() {
        for (int i = 0; i < jobs.length; i++) {
            Job job = jobs[i];
            if (job.state == WAITING && job.wanted != null && job.wanted.frame == null) {
                findFrame(job, job.wanted);
            }
        }
    }

    private void findFrame(Job job, Page page) {
        Frame frame = core.lowest(EMPTY);
        if (frame == null) {
            return;
        }
        // A page is at a place or in a frame from its first moment anywhere on.
        if (page.place == null) {
            frame.take(page, IN_USE);
            job.wake();
        } else {
            frame.take(page, COMING);
            drumStore.enqueue(frame);
        }
    }

    private void keepFrameEmpty() {
        if (core.lowest(EMPTY) != null || core.lowest(GOING) != null) {
            return;
        }
        Frame frame = core.choose();
        if (frame == null) {
            return;
        }
        frame.state = GOING;
        drumStore.enqueue(frame);
        latestChosen.push(CHOSEN_JOB * frame.owner + frame.block);
        choices++;
    }

    private Job firstReady() {
        for (int i = 0; i < jobs.length; i++) {
            if (jobs[i].state == READY) {
                return jobs[i];
            }
        }
        return null;
    }

    private void settle(Job job, int outcome) {
        if (outcome > DONE) {
            job.failure = outcome;
            close(job, FAILED);
        } else if (outcome == LAST) {
            close(job, ENDED);
        }
        if (outcome == DONE || outcome == LAST) {
            instructions++;
            if (instructions % LOOK_INSTRUCTIONS == 0) {
                core.look();
                looks++;
            }
        }
    }

    private void close(Job job, int state) {
        job.state = state;
        job.overTick = ticks;
        job.blocks = 0;
        drumStore.dropQueued(job.number);
        core.clear(job.number, drumStore.movingFrame);
        drumStore.clear(job.number);
        pages.release(job.number);
        printer.add(job);
    }

    private static boolean isAddress(int number) {
        return number >= 0 && number < ADDRESSES;
    }

    private static long cutToWord(long number) {
        return number << 16 >> 16;
    }

    private static int cutToHalf(long number) {
        return (int) (number << 40 >> 40);
    }

    /** Words in a line: the first goes first; the room is made once. */
    private static final class Row {
        private final long[] cells;
        private int first;
        private int count;

        Row(int room) {
            cells = new long[Math.max(1, room)];
        }

        int size() {
            return count;
        }

        int room() {
            return cells.length - count;
        }

        boolean append(long value) {
            int at = cellOf(count);
            if (count >= cells.length || at < 0 || at >= cells.length) {
                return false;
            }
            cells[at] = value;
            count++;
            return true;
        }

        /** Appends, and loses the first one when there is no room. */
        void push(long value) {
            if (count >= cells.length) {
                takeFirst();
            }
            append(value);
        }

        long takeFirst() {
            if (count <= 0 || first < 0 || first >= cells.length) {
                return 0;
            }
            long value = cells[first];
            first = cellOf(1);
            count--;
            return value;
        }

        long at(int i) {
            if (i < 0 || i >= count) {
                return 0;
            }
            int at = cellOf(i);
            return at < 0 || at >= cells.length ? 0 : cells[at];
        }

        long fromEnd(int i) {
            return i < 0 || i >= count ? 0 : at(count - 1 - i);
        }

        void clear() {
            first = 0;
            count = 0;
        }

        private int cellOf(int i) {
            int at = first + i;
            return at >= cells.length ? at - cells.length : at;
        }
    }

    /** One block of one job, with its words; they do not move when it does. */
    private static final class Page {
        int owner = NONE;
        int block;
        Frame frame;
        Place place;
        // Made at the first use: most objects never have 64 blocks.
        private long[] words;

        void hold(int newOwner, int newBlock) {
            owner = newOwner;
            block = newBlock;
            if (words == null) {
                words = new long[BLOCK_WORDS];
            }
        }

        /** All 0 from here on, so that the next block that it holds begins so. */
        void release() {
            owner = NONE;
            frame = null;
            place = null;
            if (words != null) {
                Arrays.fill(words, 0L);
            }
        }

        boolean isInUse() {
            return frame != null && frame.state == IN_USE;
        }

        long wordAt(int i) {
            return words == null || i < 0 || i >= words.length ? 0 : words[i];
        }

        void putWord(int i, long value) {
            if (words != null && i >= 0 && i < words.length) {
                words[i] = value;
            }
        }
    }

    /** The pages of all jobs; the jobs together never have a right to more than there are. */
    private static final class Pages {
        private final Page[] all = new Page[MOST_BLOCKS];

        Pages() {
            for (int i = 0; i < all.length; i++) {
                all[i] = new Page();
            }
        }

        Page find(int owner, int block) {
            for (int i = 0; i < all.length; i++) {
                if (all[i].owner == owner && all[i].block == block) {
                    return all[i];
                }
            }
            return null;
        }

        Page hold(int owner, int block) {
            for (int i = 0; i < all.length; i++) {
                if (all[i].owner == NONE) {
                    all[i].hold(owner, block);
                    return all[i];
                }
            }
            return null;
        }

        void release(int owner) {
            for (int i = 0; i < all.length; i++) {
                if (all[i].owner == owner) {
                    all[i].release();
                }
            }
        }
    }

    /** A frame of the core; without a page, unless it is EMPTY, its transfer is of a job that is over. */
    private static final class Frame {
        final int number;
        int state = EMPTY;
        int owner;
        int block;
        Page page;
        int idle;
        int idleBefore;
        boolean mark;
        boolean fresh;

        Frame(int number) {
            this.number = number;
        }

        void take(Page newPage, int newState) {
            state = newState;
            owner = newPage.owner;
            block = newPage.block;
            page = newPage;
            newPage.frame = this;
            idle = 0;
            idleBefore = 0;
            mark = false;
            fresh = newState == IN_USE;
        }

        void empty() {
            state = EMPTY;
            page = null;
        }

        void touch() {
            mark = true;
            fresh = false;
        }

        void look() {
            if (!mark) {
                idle++;
                return;
            }
            if (idle > 0) {
                idleBefore = idle;
            }
            idle = 0;
            mark = false;
        }

        int tell(int what) {
            if (what == 0) {
                return state;
            }
            if (state == EMPTY) {
                return NONE;
            }
            switch (what) {
                case 1: return owner;
                case 2: return block;
                case 3: return idle;
                case 4: return idleBefore;
                case 5: return mark ? 1 : 0;
                case 6: return fresh ? 1 : 0;
                default: return NONE;
            }
        }

        /** Which of the three parts of the rule it goes by: the greater part is asked first. */
        int part() {
            if (idle > idleBefore + 1) {
                return 2;
            }
            return idleBefore > 0 ? 1 : 0;
        }

        boolean goesBefore(Frame other) {
            if (part() != other.part()) {
                return part() > other.part();
            }
            if (part() == 1) {
                return idleBefore - idle > other.idleBefore - other.idle;
            }
            return idle > other.idle;
        }
    }

    private static final class Core {
        private final Frame[] frames;

        Core(int count) {
            frames = new Frame[Math.max(FEWEST_FRAMES, count)];
            for (int i = 0; i < frames.length; i++) {
                frames[i] = new Frame(i);
            }
        }

        Frame frameOf(int number) {
            return number < 0 || number >= frames.length ? null : frames[number];
        }

        Frame lowest(int state) {
            for (int i = 0; i < frames.length; i++) {
                if (frames[i].state == state) {
                    return frames[i];
                }
            }
            return null;
        }

        /** The frame in which a block is IN USE. */
        Frame holding(int owner, int block) {
            for (int i = 0; i < frames.length; i++) {
                Frame frame = frames[i];
                if (frame.block == block && frame.owner == owner && frame.state == IN_USE) {
                    return frame;
                }
            }
            return null;
        }

        Frame choose() {
            Frame best = best(false);
            return best == null ? best(true) : best;
        }

        private Frame best(boolean fresh) {
            Frame best = null;
            for (int i = 0; i < frames.length; i++) {
                Frame frame = frames[i];
                if (frame.state == IN_USE && frame.fresh == fresh
                        && (best == null || frame.goesBefore(best))) {
                    best = frame;
                }
            }
            return best;
        }

        void look() {
            for (int i = 0; i < frames.length; i++) {
                if (frames[i].state == IN_USE) {
                    frames[i].look();
                }
            }
        }

        /** Empties the frames of a job that is over, but the one whose transfer is under way. */
        void clear(int owner, Frame moving) {
            for (int i = 0; i < frames.length; i++) {
                Frame frame = frames[i];
                if (frame.owner != owner) {
                    continue;
                }
                if (frame == moving) {
                    frame.page = null;
                } else {
                    frame.empty();
                }
            }
        }
    }

    /** A place of the drum; it keeps its numbers itself, for a transfer may outlive the page. */
    private static final class Place {
        final int number;
        boolean taken;
        int owner;
        int block;

        Place(int number) {
            this.number = number;
        }

        void take(Page page) {
            taken = true;
            owner = page.owner;
            block = page.block;
            page.place = this;
        }
    }

    private static final class Drum {
        private final Place[] places = new Place[PLACES];
        private final Frame[] queue = new Frame[MOST_FRAMES];
        private int queueSize;
        Frame movingFrame;
        private Place movingPlace;
        private int began;
        private int reads;
        private int writes;

        Drum() {
            for (int i = 0; i < places.length; i++) {
                places[i] = new Place(i);
            }
        }

        Place placeOf(int number) {
            return number < 0 || number >= places.length ? null : places[number];
        }

        Frame queuedFrame(int i) {
            return i < 0 || i >= queueSize || i >= queue.length ? null : queue[i];
        }

        int countFree() {
            int count = 0;
            for (int i = 0; i < places.length; i++) {
                if (!places[i].taken) {
                    count++;
                }
            }
            return count;
        }

        Place lowestFree() {
            for (int i = 0; i < places.length; i++) {
                if (!places[i].taken) {
                    return places[i];
                }
            }
            return null;
        }

        void enqueue(Frame frame) {
            if (queueSize >= 0 && queueSize < queue.length) {
                queue[queueSize] = frame;
                queueSize++;
            }
        }

        void endTransfer() {
            Frame frame = movingFrame;
            Place place = movingPlace;
            movingFrame = null;
            movingPlace = null;
            if (frame == null || place == null) {
                return;
            }
            Page page = frame.page;
            if (frame.state == GOING) {
                writes++;
                place.taken = page != null;
                leave(frame, page);
                return;
            }
            reads++;
            place.taken = false;
            if (page == null) {
                frame.empty();
            } else {
                page.place = null;
                frame.take(page, IN_USE);
            }
        }

        private static void leave(Frame frame, Page page) {
            frame.empty();
            if (page != null) {
                page.frame = null;
            }
        }

        void beginTransfer(int tick) {
            int sector = tick / TRANSFER_TICKS % SECTORS;
            for (int i = 0; i < queueSize && i < queue.length; i++) {
                Frame frame = queue[i];
                Page page = frame == null ? null : frame.page;
                Place place = page == null ? null : placeFor(frame.state, page, sector);
                if (place != null) {
                    place.take(page);
                    movingFrame = frame;
                    movingPlace = place;
                    began = tick;
                    removeAt(i);
                    return;
                }
            }
        }

        private Place placeFor(int state, Page page, int sector) {
            if (state == COMING) {
                Place place = page.place;
                return place != null && place.number % SECTORS == sector ? place : null;
            }
            for (int i = 0; i < places.length; i++) {
                if (!places[i].taken && i % SECTORS == sector) {
                    return places[i];
                }
            }
            return null;
        }

        private void removeAt(int index) {
            for (int i = Math.max(0, index); i + 1 < queueSize && i + 1 < queue.length; i++) {
                queue[i] = queue[i + 1];
            }
            queueSize--;
        }

        /** A transfer under way is not in the queue, so it stays. */
        void dropQueued(int owner) {
            int kept = 0;
            for (int i = 0; i < queueSize && i < queue.length; i++) {
                Frame frame = queue[i];
                if (frame != null && frame.owner != owner && kept < queue.length) {
                    queue[kept] = frame;
                    kept++;
                }
            }
            queueSize = kept;
        }

        void clear(int owner) {
            for (int i = 0; i < places.length; i++) {
                if (places[i].owner == owner && places[i] != movingPlace) {
                    places[i].taken = false;
                }
            }
        }

        int tell(int what, int ticks) {
            switch (what) {
                case 4: return queueSize;
                case 5: return reads;
                case 6: return writes;
                default: break;
            }
            if (movingFrame == null || movingPlace == null) {
                return NONE;
            }
            switch (what) {
                case 0: return movingFrame.number;
                case 1: return movingPlace.number;
                case 2: return movingFrame.state == GOING ? 1 : 0;
                case 3: return TRANSFER_TICKS - (ticks - began);
                default: return NONE;
            }
        }
    }

    private static final class Job {
        final int number;
        int state;
        int failure;
        int done;
        int limit;
        int blocks;
        int mostBlocks;
        int test;
        int overTick;
        int printedWords;
        long a;
        Page wanted;
        final int[] registers = new int[REGISTERS];
        final Row tapeWords = new Row(TAPE_ROOM);
        final Row paperWords = new Row(PAPER_ROOM);

        Job(int number) {
            this.number = number;
            overTick = NONE;
        }

        void reset() {
            state = NOT_BEGUN;
            failure = 0;
            done = 0;
            limit = 0;
            blocks = 0;
            mostBlocks = 0;
            test = 0;
            overTick = NONE;
            printedWords = 0;
            a = 0;
            wanted = null;
            Arrays.fill(registers, 0);
            tapeWords.clear();
            paperWords.clear();
        }

        void begin(int address, int newLimit, int newMostBlocks) {
            state = READY;
            limit = newLimit;
            mostBlocks = newMostBlocks;
            putB(CONTROL, address);
        }

        void await(Page page) {
            state = WAITING;
            wanted = page;
        }

        void wake() {
            state = READY;
            wanted = null;
        }

        boolean isOver() {
            return state == ENDED || state == FAILED;
        }

        boolean isPrinted() {
            return printedWords >= paperWords.size();
        }

        int reserved() {
            if (isOver()) {
                return 0;
            }
            return state == NOT_BEGUN ? blocks : mostBlocks;
        }

        int getB(int b) {
            return b < 0 || b >= registers.length ? 0 : registers[b];
        }

        void putB(int b, long value) {
            if (b > 0 && b < registers.length) {
                registers[b] = cutToHalf(value);
            }
        }

        int tell(int what) {
            switch (what) {
                case 0: return state;
                case 1: return failure;
                case 2: return done;
                case 3: return wanted == null ? NONE : wanted.block;
                case 4: return blocks;
                case 5: return tapeWords.size();
                case 6: return paperWords.size();
                case 7: return test;
                case 8: return overTick;
                default: return NONE;
            }
        }
    }

    /** Does instructions; what it keeps is the instruction that it does now. */
    private static final class Processor {
        private final Core core;
        private final Pages pages;
        private Job job;
        private Frame operand;
        private int function;
        private int ba;
        private int bm;
        private int n;

        Processor(Core core, Pages pages) {
            this.core = core;
            this.pages = pages;
        }

        int step(Job current) {
            job = current;
            operand = null;
            int control = current.getB(CONTROL);
            if (current.done >= current.limit) {
                return NO_TIME;
            }
            if (!isAddress(control)) {
                return NO_ADDRESS;
            }
            Frame code = core.holding(current.number, control / BLOCK_WORDS);
            if (code == null || code.page == null) {
                return missing(control / BLOCK_WORDS);
            }
            decode(code.page.wordAt(control % BLOCK_WORDS));
            current.putB(CONTROL, control + 1);
            int outcome = perform();
            if (outcome != DONE && outcome != LAST) {
                current.putB(CONTROL, control);
                return outcome;
            }
            current.done++;
            code.touch();
            if (operand != null) {
                operand.touch();
            }
            return outcome;
        }

        private void decode(long word) {
            function = (int) (word >>> 38) & 1023;
            ba = (int) (word >>> 31) & 127;
            bm = (int) (word >>> 24) & 127;
            n = cutToHalf(word);
        }

        /** A wanted block that is not IN USE. */
        private int missing(int block) {
            Page page = pages.find(job.number, block);
            if (page == null) {
                page = job.blocks < job.mostBlocks ? pages.hold(job.number, block) : null;
                if (page == null) {
                    return NO_BLOCK;
                }
                job.blocks++;
            }
            job.await(page);
            return HELD_UP;
        }

        private int perform() {
            if (hasOperand()) {
                return withOperand();
            }
            if (function < 0200) {
                return registerOrder();
            }
            if (function < 0300) {
                return jumpOrder();
            }
            return function < 01000 ? shiftOrder() : extracode();
        }

        private boolean hasOperand() {
            switch (function) {
                case 0101: case 0102: case 0104: case 0106: case 0107: case 0113: case 0114: case 0152:
                case 0320: case 0321: case 0322: case 0324: case 0325: case 0346: case 0356:
                case 0362: case 0374:
                    return true;
                default:
                    return false;
            }
        }

        private int effective() {
            long sum = (long) n + job.getB(bm);
            if (function >= 0300 && function <= 0377) {
                sum += job.getB(ba);
            }
            return cutToHalf(sum);
        }

        private int withOperand() {
            int address = effective();
            if (!isAddress(address)) {
                return NO_ADDRESS;
            }
            Frame frame = core.holding(job.number, address / BLOCK_WORDS);
            if (frame == null || frame.page == null) {
                return missing(address / BLOCK_WORDS);
            }
            operand = frame;
            int at = address % BLOCK_WORDS;
            return function < 0300 ? registerWithWord(frame.page, at) : accumulatorWithWord(frame.page, at);
        }

        private int registerWithWord(Page page, int at) {
            long s = page.wordAt(at);
            long b = job.getB(ba);
            switch (function) {
                case 0101: job.putB(ba, s); break;
                case 0102: job.putB(ba, b - s); break;
                case 0104: job.putB(ba, b + s); break;
                case 0106: job.putB(ba, b ^ s); break;
                case 0107: job.putB(ba, b & s); break;
                case 0113: page.putWord(at, b); break;
                case 0114: page.putWord(at, cutToWord(s + b)); break;
                case 0152: job.test = signOf(b - s); break;
                default: return NO_FUNCTION;
            }
            return DONE;
        }

        private int accumulatorWithWord(Page page, int at) {
            long s = page.wordAt(at);
            long a = job.a;
            switch (function) {
                case 0320: job.a = cutToWord(a + s); break;
                case 0321: job.a = cutToWord(a - s); break;
                case 0322: job.a = cutToWord(s - a); break;
                case 0324: job.a = s; break;
                case 0325: job.a = cutToWord(-s); break;
                case 0346: page.putWord(at, a); job.a = 0; break;
                case 0356: page.putWord(at, a); break;
                case 0362: job.a = cutToWord(a * s); break;
                case 0374:
                    if (s == 0) {
                        return NO_NUMBER;
                    }
                    job.a = cutToWord(a / s);
                    break;
                default: return NO_FUNCTION;
            }
            return DONE;
        }

        private int registerOrder() {
            long s = effective();
            long b = job.getB(ba);
            switch (function) {
                case 0120: job.putB(ba, s - b); break;
                case 0121: job.putB(ba, s); break;
                case 0122: job.putB(ba, b - s); break;
                case 0124: job.putB(ba, b + s); break;
                case 0126: job.putB(ba, b ^ s); break;
                case 0127: job.putB(ba, b & s); break;
                case 0172: job.test = signOf(b - s); break;
                default: return NO_FUNCTION;
            }
            return DONE;
        }

        private int jumpOrder() {
            switch (function) {
                case 0200: count(1); break;
                case 0203: count(-1); break;
                case 0214: case 0215: case 0216: case 0217:
                    goWhen(job.getB(bm), n);
                    break;
                case 0224: case 0225: case 0226: case 0227:
                    goWhen(job.test, effective());
                    break;
                case 0234: case 0235: case 0236: case 0237:
                    goWhen(job.a, effective());
                    break;
                default: return NO_FUNCTION;
            }
            return DONE;
        }

        private void count(int by) {
            int b = job.getB(bm);
            if (b != 0) {
                job.putB(bm, b + by);
                job.putB(ba, n);
            }
        }

        private void goWhen(long tested, int target) {
            if (holds(function % 4, tested)) {
                job.putB(ba, target);
            }
        }

        /** The last digit of a function that tests, less 4, is its condition. */
        private static boolean holds(int condition, long tested) {
            switch (condition) {
                case 0: return tested == 0;
                case 1: return tested != 0;
                case 2: return tested >= 0;
                default: return tested < 0;
            }
        }

        private int shiftOrder() {
            switch (function) {
                case 0364: job.a = cutToWord(job.a * 8); break;
                case 0365: job.a = job.a >> 3; break;
                default: return NO_FUNCTION;
            }
            return DONE;
        }

        private int extracode() {
            switch (function) {
                case 01050:
                    if (job.tapeWords.size() == 0) {
                        return NO_TAPE;
                    }
                    job.a = job.tapeWords.takeFirst();
                    break;
                case 01066:
                    if (!job.paperWords.append(job.a)) {
                        return NO_PAPER;
                    }
                    break;
                case 01104: job.putB(ba, Long.bitCount(job.a & WORD_BITS)); break;
                case 01117: return LAST;
                case 01121: job.putB(ba, job.done + 1); break;
                case 01300:
                    if (job.a < 0) {
                        return NO_NUMBER;
                    }
                    job.a = rootOf(job.a);
                    break;
                default: return NO_FUNCTION;
            }
            return DONE;
        }

        private static int signOf(long number) {
            if (number == 0) {
                return 0;
            }
            return number > 0 ? 1 : -1;
        }

        /** By halves, so that no rounding comes in. */
        private static long rootOf(long square) {
            long low = 0;
            long high = GREATEST_ROOT;
            for (int i = 0; i < 48 && low < high; i++) {
                long middle = (low + high + 1) / 2;
                if (middle * middle <= square) {
                    low = middle;
                } else {
                    high = middle - 1;
                }
            }
            return low;
        }
    }

    /** Prints the papers of the jobs that are over, in the order in which they were. */
    private static final class Printer {
        final Row latest = new Row(PRINTED_KEPT);
        int words;
        private final Job[] over = new Job[JOBS];
        private int overCount;

        void add(Job job) {
            if (overCount >= 0 && overCount < over.length) {
                over[overCount] = job;
                overCount++;
            }
        }

        void drop(Job job) {
            int kept = 0;
            for (int i = 0; i < overCount && i < over.length; i++) {
                if (over[i] != job && kept < over.length) {
                    over[kept] = over[i];
                    kept++;
                }
            }
            overCount = kept;
        }

        void printNext() {
            for (int i = 0; i < overCount && i < over.length; i++) {
                Job job = over[i];
                if (job != null && !job.isPrinted()) {
                    latest.push(job.paperWords.at(job.printedWords));
                    job.printedWords++;
                    words++;
                    return;
                }
            }
        }
    }
}

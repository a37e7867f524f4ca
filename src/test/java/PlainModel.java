import java.math.BigInteger;
import java.util.ArrayDeque;
import java.util.ArrayList;
import java.util.HashMap;
import java.util.HashSet;
import java.util.List;
import java.util.Map;
import java.util.Set;
import java.util.TreeSet;

/**
 * The document once more, written for plainness alone: words in maps, whole numbers of any length, transfers
 * and jobs as objects that are thrown away. Random runs compare the class with it.
 */
final class PlainModel {
    static final class J {
        final int number;
        int state;
        int failed;
        int done;
        int limit;
        int may;
        int t;
        int waitsFor = -1;
        int overIn = -1;
        int printed;
        BigInteger a = BigInteger.ZERO;
        final Map<Integer, Integer> b = new HashMap<>();
        final Map<Integer, BigInteger> store = new HashMap<>();
        final TreeSet<Integer> blocks = new TreeSet<>();
        final Set<Integer> wereSomewhere = new HashSet<>();
        final ArrayDeque<BigInteger> tape = new ArrayDeque<>();
        final List<BigInteger> paper = new ArrayList<>();

        J(int number) {
            this.number = number;
        }

        boolean over() {
            return state >= 3;
        }
    }

    static final class F {
        int state;
        J job;
        int block;
        int t;
        int l;
        boolean mark;
        boolean fresh;
    }

    static final class P {
        J job;
        int block;
    }

    static final class Transfer {
        boolean write;
        int frame;
        int place = -1;
        int began;
        J job;
    }

    /** What stops an instruction: a number of failure, or 0 for waiting. */
    static final class Stop extends RuntimeException {
        private static final long serialVersionUID = 1L;
        final int number;

        Stop(int number) {
            this.number = number;
        }
    }

    final List<Long> tray = new ArrayList<>();
    final J[] jobs = new J[4];
    final F[] frames;
    final P[] places = new P[64];
    final List<Transfer> queue = new ArrayList<>();
    Transfer underWay;
    final List<Integer> chosen = new ArrayList<>();
    final List<Long> printed = new ArrayList<>();
    final List<J> overs = new ArrayList<>();
    int ticks;
    int all;
    int idle;
    int looks;
    int reads;
    int writes;

    PlainModel(int frames) {
        this.frames = new F[frames < 3 ? 3 : frames > 16 ? 16 : frames];
        for (int i = 0; i < this.frames.length; i++) {
            this.frames[i] = new F();
        }
        for (int i = 0; i < 4; i++) {
            jobs[i] = new J(i);
        }
    }

    static BigInteger cut(BigInteger x, int bits) {
        BigInteger round = BigInteger.ONE.shiftLeft(bits);
        BigInteger y = x.mod(round);
        return y.testBit(bits - 1) ? y.subtract(round) : y;
    }

    static BigInteger big(long x) {
        return BigInteger.valueOf(x);
    }

    int key(long word) {
        if (tray.size() == 1000) {
            return -1;
        }
        tray.add(cut(big(word), 48).longValue());
        return tray.size();
    }

    int spokenFor(J but) {
        int sum = 0;
        for (J j : jobs) {
            if (j != but && j.state == 0) {
                sum += j.blocks.size();
            } else if (j != but && !j.over()) {
                sum += j.may;
            }
        }
        return sum;
    }

    int load(int job, int address) {
        if (job < 0 || job > 3 || jobs[job].state != 0 || address < 0 || address > 1048575
                || (long) address + tray.size() > 1048576) {
            return -1;
        }
        J j = jobs[job];
        TreeSet<Integer> fresh = new TreeSet<>();
        for (int i = 0; i < tray.size(); i++) {
            fresh.add((address + i) / 512);
        }
        fresh.removeAll(j.blocks);
        List<Integer> free = freePlaces();
        if (spokenFor(j) + j.blocks.size() + fresh.size() > 64 || free.size() < fresh.size()) {
            return -1;
        }
        for (int block : fresh) {
            P p = new P();
            p.job = j;
            p.block = block;
            places[free.remove(0)] = p;
            j.wereSomewhere.add(block);
            j.blocks.add(block);
        }
        for (int i = 0; i < tray.size(); i++) {
            j.store.put(address + i, big(tray.get(i)));
        }
        tray.clear();
        return j.blocks.size();
    }

    List<Integer> freePlaces() {
        List<Integer> free = new ArrayList<>();
        for (int i = 0; i < 64; i++) {
            if (places[i] == null) {
                free.add(i);
            }
        }
        return free;
    }

    int tape(int job) {
        if (job < 0 || job > 3 || jobs[job].over() || jobs[job].tape.size() + tray.size() > 500) {
            return -1;
        }
        for (long word : tray) {
            jobs[job].tape.addLast(big(word));
        }
        tray.clear();
        return jobs[job].tape.size();
    }

    boolean start(int job, int address, int limit, int blocks) {
        if (job < 0 || job > 3 || jobs[job].state != 0 || limit < 1 || limit > 1000000 || blocks < 1
                || blocks > 64 || blocks < jobs[job].blocks.size() || spokenFor(jobs[job]) + blocks > 64) {
            return false;
        }
        J j = jobs[job];
        j.state = 1;
        j.limit = limit;
        j.may = blocks;
        j.b.put(127, cut(big(address), 24).intValue());
        return true;
    }

    int run(int n) {
        if (n < 0 || n > 2000) {
            return -1;
        }
        for (int i = 0; i < n; i++) {
            tick(ticks);
            ticks++;
        }
        return ticks;
    }

    void tick(int n) {
        if (n % 32 == 0) {
            if (underWay != null) {
                endOfTransfer(underWay);
                underWay = null;
            }
            beginOfTransfer(n);
        }
        for (J j : jobs) {
            if (j.state == 2 && frameOf(j, j.waitsFor) >= 0 && frames[frameOf(j, j.waitsFor)].state == 1) {
                j.state = 1;
                j.waitsFor = -1;
            }
        }
        for (J j : jobs) {
            if (j.state == 2 && frameOf(j, j.waitsFor) < 0 && count(0) > 0) {
                bring(j);
            }
        }
        if (count(0) == 0 && count(3) == 0 && count(1) > 0) {
            choose();
        }
        boolean done = false;
        J ready = null;
        for (int i = 3; i >= 0; i--) {
            ready = jobs[i].state == 1 ? jobs[i] : ready;
        }
        if (ready == null) {
            idle++;
        } else {
            done = step(ready);
        }
        if (done && all % 64 == 0) {
            look();
        }
        if ((n + 1) % 40 == 0) {
            print();
        }
    }

    int count(int state) {
        int count = 0;
        for (F f : frames) {
            count += f.state == state ? 1 : 0;
        }
        return count;
    }

    int frameOf(J j, int block) {
        for (int i = 0; i < frames.length; i++) {
            if (frames[i].state != 0 && frames[i].job == j && frames[i].block == block) {
                return i;
            }
        }
        return -1;
    }

    void endOfTransfer(Transfer x) {
        F f = frames[x.frame];
        if (x.write) {
            writes++;
        } else {
            reads++;
        }
        if (x.job.over() || jobs[x.job.number] != x.job) {
            frames[x.frame] = new F();
            places[x.place] = null;
        } else if (x.write) {
            frames[x.frame] = new F();
        } else {
            f.state = 1;
            f.t = 0;
            f.l = 0;
            f.mark = false;
            f.fresh = true;
            places[x.place] = null;
        }
    }

    void beginOfTransfer(int n) {
        int sector = n / 32 % 8;
        for (Transfer x : queue) {
            int place = x.place;
            if (x.write) {
                for (int p = 63; p >= 0; p--) {
                    place = places[p] == null && p % 8 == sector ? p : place;
                }
            } else if (place % 8 != sector) {
                continue;
            }
            if (place >= 0) {
                x.place = place;
                x.began = n;
                P p = new P();
                p.job = x.job;
                p.block = frames[x.frame].block;
                places[place] = p;
                underWay = x;
                queue.remove(x);
                return;
            }
        }
    }

    void bring(J j) {
        int i = 0;
        while (frames[i].state != 0) {
            i++;
        }
        F f = new F();
        f.job = j;
        f.block = j.waitsFor;
        frames[i] = f;
        if (j.wereSomewhere.add(j.waitsFor)) {
            f.state = 1;
            f.fresh = true;
            j.state = 1;
            j.waitsFor = -1;
            return;
        }
        f.state = 2;
        Transfer x = new Transfer();
        x.frame = i;
        x.job = j;
        for (int p = 0; p < 64; p++) {
            if (places[p] != null && places[p].job == j && places[p].block == f.block) {
                x.place = p;
            }
        }
        queue.add(x);
    }

    void choose() {
        List<Integer> from = new ArrayList<>();
        for (int i = 0; i < frames.length; i++) {
            if (frames[i].state == 1 && !frames[i].fresh) {
                from.add(i);
            }
        }
        for (int i = 0; i < frames.length && count(1) > 0; i++) {
            if (frames[i].state == 1 && allFresh()) {
                from.add(i);
            }
        }
        int best = -1;
        for (int i : from) {
            F f = frames[i];
            if (f.t > f.l + 1 && (best < 0 || f.t > frames[best].t)) {
                best = i;
            }
        }
        if (best < 0) {
            for (int i : from) {
                F f = frames[i];
                if (f.l > 0 && (best < 0 || f.l - f.t > frames[best].l - frames[best].t)) {
                    best = i;
                }
            }
        }
        if (best < 0) {
            for (int i : from) {
                if (best < 0 || frames[i].t > frames[best].t) {
                    best = i;
                }
            }
        }
        frames[best].state = 3;
        chosen.add(0, 2048 * frames[best].job.number + frames[best].block);
        Transfer x = new Transfer();
        x.write = true;
        x.frame = best;
        x.job = frames[best].job;
        queue.add(x);
    }

    boolean allFresh() {
        for (F f : frames) {
            if (f.state == 1 && !f.fresh) {
                return false;
            }
        }
        return true;
    }

    void look() {
        looks++;
        for (F f : frames) {
            if (f.state == 1) {
                if (f.mark) {
                    f.l = f.t > 0 ? f.t : f.l;
                    f.t = 0;
                } else {
                    f.t++;
                }
                f.mark = false;
            }
        }
    }

    void print() {
        for (J j : overs) {
            if (j.printed < j.paper.size()) {
                printed.add(0, j.paper.get(j.printed).longValue());
                j.printed++;
                return;
            }
        }
    }

    boolean step(J j) {
        int control = b(j, 127);
        Set<Integer> touched = new HashSet<>();
        try {
            if (j.done == j.limit) {
                throw new Stop(7);
            }
            BigInteger word = fetch(j, control, touched);
            j.b.put(127, control + 1);
            PlainOrders.perform(this, j, word, touched);
        } catch (Stop stop) {
            j.b.put(127, control);
            if (stop.number != 0) {
                j.failed = stop.number;
                finish(j, 4);
            }
            return false;
        }
        j.done++;
        all++;
        for (int block : touched) {
            frames[frameOf(j, block)].mark = true;
            frames[frameOf(j, block)].fresh = false;
        }
        if (j.state == 3) {
            finish(j, 3);
        }
        return true;
    }

    static int b(J j, int i) {
        return i == 0 ? 0 : j.b.getOrDefault(i, 0);
    }

    BigInteger fetch(J j, int address, Set<Integer> touched) {
        if (address < 0 || address > 1048575) {
            throw new Stop(2);
        }
        int block = address / 512;
        if (!j.blocks.contains(block)) {
            if (j.blocks.size() == j.may) {
                throw new Stop(3);
            }
            j.blocks.add(block);
        }
        if (frameOf(j, block) < 0 || frames[frameOf(j, block)].state != 1) {
            j.state = 2;
            j.waitsFor = block;
            throw new Stop(0);
        }
        touched.add(block);
        return j.store.getOrDefault(address, BigInteger.ZERO);
    }

    void finish(J j, int state) {
        j.state = state;
        j.overIn = ticks;
        overs.add(j);
        for (int i = 0; i < frames.length; i++) {
            if (frames[i].job == j && (underWay == null || underWay.frame != i)) {
                frames[i] = new F();
            }
        }
        queue.removeIf(x -> x.job == j);
        for (int p = 0; p < 64; p++) {
            if (places[p] != null && places[p].job == j && (underWay == null || underWay.place != p)) {
                places[p] = null;
            }
        }
        j.blocks.clear();
        j.store.clear();
    }

    boolean forget(int job) {
        if (job < 0 || job > 3 || !jobs[job].over() || jobs[job].printed < jobs[job].paper.size()) {
            return false;
        }
        overs.remove(jobs[job]);
        jobs[job] = new J(job);
        return true;
    }

    int job(int job, int what) {
        if (job < 0 || job > 3 || what < 0 || what > 8) {
            return -1;
        }
        J j = jobs[job];
        int[] answers = {j.state, j.failed, j.done, j.waitsFor, j.blocks.size(), j.tape.size(),
            j.paper.size(), j.t, j.overIn};
        return answers[what];
    }

    int register(int job, int b) {
        return job < 0 || job > 3 || b < 0 || b > 127 ? 0 : b(jobs[job], b);
    }

    long accumulator(int job) {
        return job < 0 || job > 3 ? 0 : jobs[job].a.longValue();
    }

    long word(int job, int address) {
        return job < 0 || job > 3 ? 0 : jobs[job].store.getOrDefault(address, BigInteger.ZERO).longValue();
    }

    long paper(int job, int i) {
        return job < 0 || job > 3 || i < 0 || i >= jobs[job].paper.size() ? 0
            : jobs[job].paper.get(i).longValue();
    }

    int frame(int frame, int what) {
        if (frame < 0 || frame >= frames.length || what < 0 || what > 6) {
            return -1;
        }
        F f = frames[frame];
        if (f.state == 0) {
            return what == 0 ? 0 : -1;
        }
        int[] answers = {f.state, f.job.number, f.block, f.t, f.l, f.mark ? 1 : 0, f.fresh ? 1 : 0};
        return answers[what];
    }

    int place(int place, int what) {
        if (place < 0 || place > 63 || places[place] == null || what < 0 || what > 1) {
            return -1;
        }
        return what == 0 ? places[place].job.number : places[place].block;
    }

    int drum(int what) {
        int[] answers = {-1, -1, -1, -1, queue.size(), reads, writes};
        if (underWay != null) {
            answers[0] = underWay.frame;
            answers[1] = underWay.place;
            answers[2] = underWay.write ? 1 : 0;
            answers[3] = 32 - (ticks - underWay.began);
        }
        return what < 0 || what > 6 ? -1 : answers[what];
    }

    int queued(int i) {
        return i < 0 || i >= queue.size() ? -1 : queue.get(i).frame;
    }

    int chosen(int i) {
        return i < 0 || i >= 64 || i >= chosen.size() ? -1 : chosen.get(i);
    }

    long printed(int i) {
        return i < 0 || i >= 400 || i >= printed.size() ? 0 : printed.get(i);
    }

    int clock(int what) {
        int[] answers = {ticks, all, idle, chosen.size(), printed.size(), looks};
        return what < 0 || what > 5 ? -1 : answers[what];
    }
}

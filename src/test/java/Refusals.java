import java.util.function.Supplier;

/** Calls that the document lets refuse: a twin that was not asked tells whether nothing was done. */
final class Refusals {
    interface Call {
        long answer(OneLevelStore x);
    }

    private static final int LATER = 700;

    private final Due due;

    Refusals(Due due) {
        this.due = due;
    }

    /** Job 3 of the scene has not begun, so that the words on the tray can be looked at in its store. */
    void check(String what, Supplier<OneLevelStore> scene, long answer, Call... calls) {
        OneLevelStore asked = scene.get();
        OneLevelStore left = scene.get();
        for (int i = 0; i < calls.length; i++) {
            due.is(what + ", call " + i, calls[i].answer(asked), answer);
        }
        due.same(what + ", nothing was done", asked, left);
        sameTray(what + ", the tray", asked, left);
        due.is(what + ", later", asked.run(LATER), left.run(LATER));
        for (int i = 0; i <= 5; i++) {
            due.is(what + ", clock " + i + " later", asked.clock(i), left.clock(i));
        }
        for (int job = 0; job < 4; job++) {
            due.is(what + ", job " + job + " later", asked.job(job, 0), left.job(job, 0));
            due.is(what + ", tape of " + job + " later", asked.job(job, 5), left.job(job, 5));
        }
    }

    private void sameTray(String what, OneLevelStore asked, OneLevelStore left) {
        due.is(what, asked.key(77), left.key(77));
        due.is(what + " as it is loaded", asked.load(3, 0), left.load(3, 0));
        for (int i = 0; i < 5; i++) {
            due.is(what + ", word " + i, asked.word(3, i), left.word(3, i));
        }
    }
}

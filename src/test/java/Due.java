/** Counts the answers that are not as due, and ends the program with 1 if there were some. */
final class Due {
    private int wrong;
    private int asked;
    private String sentence = "";

    /** The sentence of the document that the next answers are to prove. */
    void about(String words) {
        sentence = "\"" + words + "\": ";
    }

    void is(String what, long got, long want) {
        asked++;
        if (got != want) {
            wrong++;
            System.out.println(sentence + what + " answered " + got + ", due is " + want);
        }
    }

    void yes(String what, boolean got) {
        is(what, got ? 1 : 0, 1);
    }

    void no(String what, boolean got) {
        is(what, got ? 1 : 0, 0);
    }

    /** What a machine answers to the numbers 0, 1, .. of a call that tells of a frame. */
    void frame(String when, OneLevelStore x, int frame, int... wants) {
        for (int what = 0; what < wants.length; what++) {
            is(when + ", frame " + frame + ", " + what, x.frame(frame, what), wants[what]);
        }
    }

    void drum(String when, OneLevelStore x, int... wants) {
        for (int what = 0; what < wants.length; what++) {
            is(when + ", drum " + what, x.drum(what), wants[what]);
        }
    }

    void job(String when, OneLevelStore x, int job, int... wants) {
        for (int what = 0; what < wants.length; what++) {
            is(when + ", job " + job + ", " + what, x.job(job, what), wants[what]);
        }
    }

    /** Two machines look the same from outside. */
    void same(String what, OneLevelStore x, OneLevelStore y) {
        long[] seen = Sight.of(x);
        long[] wanted = Sight.of(y);
        for (int i = 0; i < seen.length; i++) {
            is(what + ", answer " + i + " of Sight", seen[i], wanted[i]);
        }
    }

    int wrong() {
        return wrong;
    }

    void end() {
        System.out.println(wrong + " of " + asked + " answers are not as due");
        if (wrong != 0) {
            System.exit(1);
        }
    }
}

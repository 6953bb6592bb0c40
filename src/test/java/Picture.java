/** All that calls can tell of an object, so that two can be compared. What it asks goes on to use the object. */
final class Picture {

    /** A picture is to leave room for the calls that lead to it: an object is good for 512. */
    private static final int CALLS_MOST = 460;

    private final YearRope x;
    private final StringBuilder text = new StringBuilder();
    private int calls;

    private Picture(YearRope x) {
        this.x = x;
    }

    /** All, with the TAPE, what stands on it, and fault(). */
    static String whole(YearRope x) {
        Picture p = new Picture(x);
        p.tell(tape(x));
        p.stateAndPast();
        p.textOnTape();
        return p.done();
    }

    /** All but the TAPE and fault(). */
    static String butTape(YearRope x) {
        Picture p = new Picture(x);
        p.stateAndPast();
        return p.done();
    }

    /** All but the TAPE, fault(), THE IMAGE and the acts that can be undone. */
    static String state(YearRope x) {
        Picture p = new Picture(x);
        p.stateNow();
        return p.done();
    }

    /** fault(), and how long the TAPE is: by what a feed answers, which is taken back. */
    static String tape(YearRope x) {
        int fed = x.feed(0, 0, 0, 0, 0);
        if (fed != YearRope.NONE) {
            x.end(fed - 20);
        }
        return "fault " + x.fault() + ", tape " + (fed == YearRope.NONE ? "full" : "" + (fed - 20));
    }

    private String done() {
        if (calls > CALLS_MOST) {
            throw new AssertionError("a picture of " + calls + " calls");
        }
        return text.toString();
    }

    private void tell(Object answer) {
        calls++;
        text.append(answer).append(' ');
    }

    private void stateAndPast() {
        stateNow();
        int acts = x.count(14);
        tell(acts);
        for (int i = 0; i < acts; i++) {
            tell(" undone " + x.undo());
            stateNow();
        }
        if (x.back()) {
            tell(" image ");
            stateNow();
        }
    }

    private void stateNow() {
        for (int what = 0; what < 14; what++) {
            tell(x.count(what));
        }
        things();
        int seed = x.seed(0);
        tell(seed);
        tell(x.seed(seed));
        for (int row = 0; row < Math.min(x.count(13), 3); row++) {
            for (int what = 0; what < 5; what++) {
                tell(x.log(row, what));
            }
        }
    }

    private void things() {
        for (int yarn = 0; yarn < x.count(0); yarn++) {
            for (int what = 0; what < 4; what++) {
                tell(x.yarn(yarn, what));
            }
        }
        for (int rope = 0; rope < x.count(1); rope++) {
            for (int what = 0; what < 12; what++) {
                tell(x.rope(rope, what));
            }
        }
        for (int order = 0; order < x.count(2); order++) {
            for (int what = 0; what < 3; what++) {
                tell(x.order(order, what));
            }
        }
    }

    /** The scenes of the tests put texts of THE WALK on the TAPE that tell GALE or DAMP. */
    private void textOnTape() {
        tell(" text " + Check.outcome(x::walk));
        tell(x.fault());
        tell(x.count(6));
        tell(x.count(7));
    }
}

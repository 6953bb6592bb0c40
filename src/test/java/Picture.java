/** All that calls can tell of an object, so that two can be compared. What it asks goes on to use the object. */
final class Picture {

    /** What asks alone, or answers false and does nothing, in Scenes.busy. */
    static final Bounds.Call[] ASKS = {
        x -> x.end(-1), x -> x.end(8), x -> x.yarn(3, 5), x -> x.rope(2, 13), x -> x.order(1, 2),
        x -> x.bears(0, 1, 2, 400), x -> x.best(5), x -> x.cheapest(1), x -> x.can(true), x -> x.can(false),
        x -> x.most(true), x -> x.most(false), x -> x.cuts(0, true), x -> x.cuts(0, false), x -> x.walks(5),
        x -> x.share(0, 2, 9999), x -> x.shared(0, 2, 9999), x -> x.oakum(16, 3, 0), x -> x.oakum(16, 3, 1),
        x -> x.oakum(16, 3, 2), x -> x.holds(0, true), x -> x.holds(0, false), x -> x.would(0, 0), x -> x.would(0, 1),
        x -> x.would(0, 2), YearRope::weakest, YearRope::fewest, x -> x.buys(9999), YearRope::skips, YearRope::loose,
        x -> x.lasts(1), x -> x.trial(40, true), x -> x.trial(40, false), x -> x.span(40, true), x -> x.span(40, false),
        x -> x.led(0, true), x -> x.led(0, false), x -> x.log(0, 4), x -> x.log(60, 4), x -> x.seed(x.seed(0)),
        x -> x.count(8), x -> x.count(15)};

    /** A picture is to leave room for the calls that lead to it: an object is good for 512. */
    private static final int CALLS_MOST = 460;

    private final YearRope x;
    private final StringBuilder text = new StringBuilder();
    private int calls;

    private Picture(YearRope x) {
        this.x = x;
    }

    /** All, with the TAPE, what stands on it, and fault(). */
    static String whole(YearRope x) {
        Picture p = new Picture(x);
        p.tell(tape(x));
        p.stateAndPast();
        p.textOnTape();
        return p.done();
    }

    /** All but the TAPE and fault(). */
    static String butTape(YearRope x) {
        Picture p = new Picture(x);
        p.stateAndPast();
        return p.done();
    }

    /** All but the TAPE, fault(), THE IMAGE and the acts that can be undone. */
    static String state(YearRope x) {
        Picture p = new Picture(x);
        p.stateNow();
        return p.done();
    }

    /** What all that asks answers. */
    static String asked(YearRope x) {
        StringBuilder answers = new StringBuilder();
        for (Bounds.Call ask : ASKS) {
            answers.append(Check.outcome(() -> ask.of(x))).append(' ');
        }
        return answers.toString();
    }

    /** fault(), and how long the TAPE is: by what a feed answers, which is taken back. */
    static String tape(YearRope x) {
        int fed = x.feed(0, 0, 0, 0, 0);
        if (fed != YearRope.NONE) {
            x.end(fed - 20);
        }
        return "fault " + x.fault() + ", tape " + (fed == YearRope.NONE ? "full" : "" + (fed - 20));
    }

    private String done() {
        if (calls > CALLS_MOST) {
            throw new AssertionError("a picture of " + calls + " calls");
        }
        return text.toString();
    }

    private void tell(Object answer) {
        calls++;
        text.append(answer).append(' ');
    }

    private void stateAndPast() {
        stateNow();
        int acts = x.count(14);
        tell(acts);
        for (int i = 0; i < acts; i++) {
            tell(" undone " + x.undo());
            stateNow();
        }
        if (x.back()) {
            tell(" image ");
            stateNow();
        }
    }

    private void stateNow() {
        for (int what = 0; what < 14; what++) {
            tell(x.count(what));
        }
        things();
        int seed = x.seed(0);
        tell(seed);
        tell(x.seed(seed));
        for (int row = 0; row < Math.min(x.count(13), 3); row++) {
            for (int what = 0; what < 5; what++) {
                tell(x.log(row, what));
            }
        }
    }

    private void things() {
        for (int yarn = 0; yarn < x.count(0); yarn++) {
            for (int what = 0; what < 4; what++) {
                tell(x.yarn(yarn, what));
            }
        }
        for (int rope = 0; rope < x.count(1); rope++) {
            for (int what = 0; what < 12; what++) {
                tell(x.rope(rope, what));
            }
        }
        for (int order = 0; order < x.count(2); order++) {
            for (int what = 0; what < 3; what++) {
                tell(x.order(order, what));
            }
        }
    }

    /** The scenes of the tests put texts of THE WALK on the TAPE that tell GALE or DAMP. */
    private void textOnTape() {
        tell(" text " + Check.outcome(x::walk));
        tell(x.fault());
        tell(x.count(6));
        tell(x.count(7));
    }
}

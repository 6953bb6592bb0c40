/**
 * What the tests of boundaries share. Each call is made on an object of its own, as its scene makes it; what a refused
 * call must not change is compared with another object of that scene.
 */
final class Bounds {

    interface Scene {
        YearRope make();
    }

    interface Call {
        Object of(YearRope x);
    }

    private final Check check;

    Bounds(Check check) {
        this.check = check;
    }

    /** The scene, and calls made in it. */
    static Scene after(Scene scene, Call... calls) {
        return () -> {
            YearRope x = scene.make();
            for (Call call : calls) {
                call.of(x);
            }
            return x;
        };
    }

    void answers(Object want, String what, Scene scene, Call call) {
        YearRope x = scene.make();
        check.due(what, want, () -> call.of(x));
    }

    /** An answer that changes nothing. */
    void leaves(Object want, String what, Scene scene, Call call) {
        YearRope x = scene.make();
        check.due(what, want, () -> call.of(x));
        check.due("what stands behind " + what, Picture.whole(scene.make()), () -> Picture.whole(x));
    }

    /** A call that throws, and changes nothing. */
    void refuses(String exception, String what, Scene scene, Call call) {
        leaves("throws " + exception, what, scene, call);
    }

    void noIndex(String what, Scene scene, Call call) {
        refuses("IndexOutOfBoundsException", what, scene, call);
    }

    void noArgument(String what, Scene scene, Call call) {
        refuses("IllegalArgumentException", what, scene, call);
    }

    void noState(String what, Scene scene, Call call) {
        refuses("IllegalStateException", what, scene, call);
    }

    void noSupport(String what, Scene scene, Call call) {
        refuses("UnsupportedOperationException", what, scene, call);
    }

    void noElement(String what, Scene scene, Call call) {
        refuses("NoSuchElementException", what, scene, call);
    }

    // ---- texts

    void rightWalk(Scene scene, String text, Object want, Call told) {
        YearRope x = scene.make();
        x.end(0);
        int texts = x.count(3) + 1;
        check.due("walk of '" + text + "'", texts, () -> Check.walk(x, text));
        check.due("fault of '" + text + "'", -1, x::fault);
        check.due("what '" + text + "' told", want, () -> told.of(x));
    }

    void rightLaw(Scene scene, String text, int lines) {
        YearRope x = scene.make();
        x.end(0);
        check.due("law of '" + text + "'", lines, () -> Check.law(x, text));
        check.due("fault of '" + text + "'", -1, x::fault);
        check.due("lines of '" + text + "'", lines, () -> x.count(4));
    }

    /** The first wrong byte is where ^ stands, which is no part of the text itself. */
    void wrongWalk(Scene scene, String marked) {
        refusesText("IllegalArgumentException", scene, marked, YearRope::walk);
    }

    void wrongLaw(Scene scene, String marked) {
        refusesText("IllegalArgumentException", scene, marked, YearRope::law);
    }

    /** Behind a text that is refused the TAPE is used up, fault() tells of it, and nothing else has changed. */
    void refusesText(String exception, Scene scene, String marked, Call reading) {
        String text = marked.replace("^", "");
        YearRope x = scene.make();
        x.end(0);
        Check.feed(x, text);
        check.due("reading of '" + marked + "'", "throws " + exception, () -> reading.of(x));
        check.due("fault and tape behind '" + marked + "'", "fault " + marked.indexOf('^') + ", tape 0",
                () -> Picture.tape(x));
        check.due("what stands behind '" + marked + "'", Picture.butTape(scene.make()), () -> Picture.butTape(x));
    }

    /** A number of THE WALK, where # stands: what it can be is told, what is next to that is wrong. */
    void walkNumber(Scene scene, String line, int least, int most, Call told) {
        for (int n : new int[] {least, least + 1, most - 1, most}) {
            rightWalk(scene, line.replace("#", "" + n), n, told);
        }
        wrongWalk(scene, line.replace("#", "^" + (most + 1)));
        wrongWalk(scene, line.replace("#", "^-1"));
        if (least > 0) {
            wrongWalk(scene, line.replace("#", "^" + (least - 1)));
        }
    }

    /** A number of THE LAW, likewise. */
    void lawNumber(Scene scene, String line, int least, int most) {
        for (int n : new int[] {least, least + 1, most - 1, most}) {
            rightLaw(scene, line.replace("#", "" + n), 1);
        }
        wrongLaw(scene, line.replace("#", "^" + (most + 1)));
        wrongLaw(scene, line.replace("#", "^-1"));
    }

    // ---- numbers that a call is given

    interface Numbered {
        Object of(YearRope x, int n);
    }

    /** From least to most it does not throw; what is next to these, and far from them, is refused. */
    void range(String exception, String what, Scene scene, int least, int most, Numbered call) {
        for (int n : new int[] {least, most}) {
            YearRope x = scene.make();
            String answer = Check.outcome(() -> call.of(x, n));
            check.due(what + " of " + n + " goes", false, () -> answer.startsWith("throws"));
        }
        for (int n : new int[] {least - 1, most + 1, Integer.MIN_VALUE, Integer.MAX_VALUE}) {
            refuses(exception, what + " of " + n, scene, x -> call.of(x, n));
        }
    }

    void indices(String what, Scene scene, int count, Numbered call) {
        range("IndexOutOfBoundsException", what, scene, 0, count - 1, call);
    }

    void arguments(String what, Scene scene, int least, int most, Numbered call) {
        range("IllegalArgumentException", what, scene, least, most, call);
    }

    void whats(String what, Scene scene, int most, Numbered call) {
        range("NoSuchElementException", what, scene, 0, most, call);
    }
}

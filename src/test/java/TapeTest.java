/** Promises 1 (a new object), 2 (feed), 3 (end). */
public final class TapeTest {

    public static void main(String[] args) {
        Check check = new Check("TapeTest");
        newObject(check);
        feeds(check);
        ends(check);
        bytesComeHighestFirst(check);
        check.end();
    }

    private static void newObject(Check check) {
        YearRope x = new YearRope();
        check.due("NONE", -1, () -> YearRope.NONE);
        int[] counts = {0, 0, 0, 0, -1, 0, 0, 0, 0, 0, 0, 0, 0, 0, 0};
        for (int what = 0; what < counts.length; what++) {
            int w = what;
            check.due("count of a new object " + w, counts[w], () -> x.count(w));
        }
        check.due("fault ahead of any text", -1, x::fault);
        check.due("end(0) of an empty tape", true, () -> x.end(0));
        check.due("end(1) of an empty tape", false, () -> x.end(1));
        check.due("undo of nothing", false, x::undo);
        check.due("back to nothing", false, x::back);
        check.due("seed at first", 1, () -> x.seed(1));
        check.due("weakest of none", -1, x::weakest);
        check.due("fewest for nothing", 0, x::fewest);
        check.due("walks of none", 0, () -> x.walks(3));
        check.due("lasts of none", 0, () -> x.lasts(1));
        check.due("best of none", -1, () -> x.best(1));
        check.due("log of none", -1, () -> x.log(0, 0));
        check.noIndex("yarn of none", () -> x.yarn(0, 0));
        check.noIndex("rope of none", () -> x.rope(0, 0));
        check.noIndex("order of none", () -> x.order(0, 0));
        for (int set = 0; set < 2; set++) {
            boolean flag = set == 1;
            check.due("can of none", 0, () -> x.can(flag));
            check.due("most of none", 0, () -> x.most(flag));
            check.due("trial of none", 0, () -> x.trial(5, flag));
            check.due("span of none", 0, () -> x.span(5, flag));
        }
        check.due("a season of none", 0, () -> x.seasons(1));
    }

    private static void feeds(Check check) {
        YearRope x = new YearRope();
        for (int i = 1; i <= 20; i++) {
            int want = 20 * i;
            check.due("feed " + i, want, () -> x.feed(0x20202020, 0x20202020, 0x20202020, 0x20202020, 0x20202020));
        }
        check.due("feed beyond 400", -1, () -> x.feed(1, 2, 3, 4, 5));
        check.due("what was fed beyond did not come", false, () -> x.end(401));
        check.due("all 400 are there", true, () -> x.end(400));
        check.due("one byte less", true, () -> x.end(399));
        check.due("feed at 399", -1, () -> x.feed(1, 2, 3, 4, 5));
        check.due("to 381", true, () -> x.end(381));
        check.due("feed at 381", -1, () -> x.feed(1, 2, 3, 4, 5));
        check.due("to 380", true, () -> x.end(380));
        check.due("feed at 380", 400, () -> x.feed(0x20202020, 0x20202020, 0x20202020, 0x20202020, 0x20202020));
        check.due("a text of 400 blanks", 1, x::walk);
        check.due("a text uses the tape up", 20, () -> x.feed(0, 0, 0, 0, 0));
        check.noArgument("a law of zeros", x::law);
        check.due("a wrong text uses the tape up", false, () -> x.end(1));
    }

    private static void ends(Check check) {
        YearRope x = new YearRope();
        x.feed(0x67616C65, 0x20313233, 0, 0, 0);
        check.due("end below 0", false, () -> x.end(-1));
        check.due("end at the least int", false, () -> x.end(Integer.MIN_VALUE));
        check.due("end beyond", false, () -> x.end(21));
        check.due("end at all", true, () -> x.end(20));
        check.due("end at 7", true, () -> x.end(7));
        check.due("end at 8 then", false, () -> x.end(8));
        check.due("walk of gale 12", 1, x::walk);
        check.due("gale", 12, () -> x.count(6));
    }

    private static void bytesComeHighestFirst(Check check) {
        YearRope x = new YearRope();
        x.feed(0x67616C65, 0x20353B64, 0x616D7020, 0x363B2020, 0xFF202020);
        check.noArgument("walk of 'gale 5;damp 6;  \u00ff'", x::walk);
        check.due("the byte 255 is wrong", 16, x::fault);
        x.feed(0x67616C65, 0x20353B64, 0x616D7020, 0x36202020, 0x20202020);
        check.due("walk of 'gale 5;damp 6'", 1, x::walk);
        check.due("gale 5", 5, () -> x.count(6));
        check.due("damp 6", 6, () -> x.count(7));
    }
}

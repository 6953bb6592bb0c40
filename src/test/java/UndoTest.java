/** Promises 42 (undo), 43 (image), 44 (back). */
public final class UndoTest {

    private static final String YARNS = "yarn 5 long 40 rot 1 reign 0;yarn 8 long 30 rot 0 reign 1;"
            + "yarn 3 long 50 rot 2 reign 0;rope 0 1 2 long 9;order 5 long 2 pay 4;order 6 long 2 pay 3;gale 50;damp 50";

    public static void main(String[] args) {
        Check check = new Check("UndoTest");
        eachAct(check);
        twelveActs(check);
        whatStays(check);
        images(check);
        imageOfTheLaw(check);
        check.end();
    }

    /** All that can be asked of the state, but for the acts. */
    private static String all(YearRope x) {
        StringBuilder text = new StringBuilder();
        for (int i = 0; i < x.count(0); i++) {
            for (int w = 0; w < 6; w++) {
                text.append(x.yarn(i, w)).append(' ');
            }
        }
        for (int i = 0; i < x.count(1); i++) {
            for (int w = 0; w < 14; w++) {
                text.append(x.rope(i, w)).append(' ');
            }
        }
        for (int i = 0; i < x.count(2); i++) {
            for (int w = 0; w < 3; w++) {
                text.append(x.order(i, w)).append(' ');
            }
        }
        for (int w = 0; w < 14; w++) {
            text.append(x.count(w)).append(' ');
        }
        for (int i = 0; i < x.count(13); i++) {
            for (int w = 0; w < 5; w++) {
                text.append(x.log(i, w)).append(' ');
            }
        }
        int seed = x.seed(0);
        x.seed(seed);
        return text.append(seed).toString();
    }

    private static void eachAct(Check check) {
        YearRope x = Check.shed(YARNS);
        String before = all(x);
        Runnable[] acts = {() -> x.lay(2, 1, 0, 3), () -> x.tar(0), () -> x.whip(0), () -> x.twice(0), () -> x.cut(0, 4),
            () -> x.hang(0, 9), () -> x.meet(0, 0), () -> x.pick(0), () -> x.seasons(12)};
        for (int i = 0; i < acts.length; i++) {
            acts[i].run();
            check.due("act " + i + " changes something", false, () -> all(x).equals(before));
            check.due("act " + i + " is undone", true, x::undo);
            check.due("all is as ahead of act " + i, before, () -> all(x));
            check.due("no act behind " + i, 0, () -> x.count(14));
        }
        x.hang(0, 0);
        check.due("an act that changes nothing", 1, () -> x.count(14));
        x.hang(0, 9);
        check.noState("a rope that is not free", () -> x.meet(0, 0));
        check.due("a call that throws is no act", 2, () -> x.count(14));
        check.due("nothing more to undo", true, x::undo);
    }

    private static void twelveActs(Check check) {
        YearRope x = Check.shed(YARNS);
        for (int i = 1; i <= 14; i++) {
            x.hang(0, i);
        }
        check.due("12 are remembered", 12, () -> x.count(14));
        for (int i = 13; i >= 2; i--) {
            int want = i;
            check.due("undone", true, x::undo);
            check.due("load", want, () -> x.rope(0, 9));
        }
        check.due("no more", false, x::undo);
        check.due("load stays", 2, () -> x.rope(0, 9));
        x.tar(0);
        x.tar(0);
        x.undo();
        x.tar(0);
        check.due("two are remembered", 2, () -> x.count(14));
        x.undo();
        x.undo();
        check.due("tar", 0, () -> x.rope(0, 4));
    }

    private static void whatStays(Check check) {
        YearRope x = Check.shed(YARNS);
        x.seed(5);
        x.tar(0);
        x.seed(6);
        x.image();
        Check.feed(x, "gale 1;;");
        check.due("undone", true, x::undo);
        check.due("the seed is as ahead of the act", 5, () -> x.seed(7));
        check.due("the tape stays", true, () -> x.end(8));
        check.noArgument("and is read", x::walk);
        x.whip(0);
        check.due("undone", true, x::undo);
        check.due("fault stays", 7, x::fault);
        check.due("the image stays", true, x::back);
        check.due("its tar", 1, () -> x.rope(0, 4));
        check.due("its seed", 6, () -> x.seed(6));
        check.due("fault stays", 7, x::fault);
    }

    private static void images(Check check) {
        YearRope x = Check.shed(YARNS);
        x.hang(0, 3);
        check.due("none was kept", false, x::back);
        check.due("and nothing happens", 1, () -> x.count(14));
        x.image();
        String before = all(x);
        check.due("an image is no act", 1, () -> x.count(14));
        x.seasons(9);
        x.lay(0, 1, 2, 4);
        Check.walk(x, "yarn 9 long 9 rot 1 reign 1;order 7 long 7 pay 7;gale 2;damp 3");
        x.twice(1);
        Check.feed(x, "gale 44");
        check.due("back", true, x::back);
        check.due("all is as it was kept", before, () -> all(x));
        check.due("no act is remembered", 0, () -> x.count(14));
        check.due("nothing to undo", false, x::undo);
        check.due("the tape stays", 2, x::walk);
        check.due("gale 44", 44, () -> x.count(6));
        check.due("back again", true, x::back);
        check.due("the same", before, () -> all(x));
        x.pick(0);
        x.image();
        check.due("an image in place of the first", true, x::back);
        check.due("no rope", 0, () -> x.count(1));
    }

    private static void imageOfTheLaw(Check check) {
        YearRope x = Check.shed(YARNS);
        x.image();
        Check.law(x, "wear 5 if long > 3;bear 7");
        check.due("back to no law", true, x::back);
        check.due("no law", -1, () -> x.count(4));
        check.due("wears by 1", 1, () -> x.rope(0, 11));
        Check.law(x, "wear 5 if long > 3;bear 7");
        x.image();
        Check.law(x, "wear 9 if long > 99 or long < 20;bear 3;bear 3");
        check.wrongLaw(x, "wear", 4);
        check.due("back to the law", true, x::back);
        check.due("two lines", 2, () -> x.count(4));
        check.due("wears by 5", 5, () -> x.rope(0, 11));
        check.due("bears 20", 20, () -> x.rope(0, 10));
        Check.law(x, "bear 1");
        check.due("the image's law is its own", true, x::back);
        check.due("bears 20 still", 20, () -> x.rope(0, 10));
    }
}

/** Promises 11 (lay), 12 (tar), 13 (whip), 14 (twice), 15 (cut), 16 (hang), 17 (meet), 18 (pick). */
public final class ActTest {

    private static final String YARNS = "yarn 5 long 40 rot 1 reign 0;yarn 8 long 30 rot 0 reign 1;"
            + "yarn 3 long 200 rot 2 reign 0;yarn 2 long 200 rot 0 reign 5;yarn 2 long 200 rot 0 reign 5";

    public static void main(String[] args) {
        Check check = new Check("ActTest");
        lays(check);
        tars(check);
        whips(check);
        doubles(check);
        cuts(check);
        hangs(check);
        meets(check);
        picks(check);
        check.end();
    }

    private static YearRope withBroken() {
        YearRope x = Check.shed(YARNS + ";rope 0 1 2 long 10;rope 2 3 4 long 9;hang 0 999");
        x.seasons(1);
        return x;
    }

    private static void lays(Check check) {
        YearRope x = Check.shed(YARNS);
        check.due("laid", 0, () -> x.lay(2, 0, 1, 30));
        check.due("gone from the shed", 10, () -> x.yarn(0, 1));
        check.due("used up", 0, () -> x.yarn(1, 1));
        check.due("long", 30, () -> x.rope(0, 3));
        check.due("plies", 1, () -> x.rope(0, 7));
        check.due("laid of 200 less 30", 1, () -> x.lay(4, 3, 2, 170));
        check.noState("one has not so many", () -> x.lay(2, 3, 4, 1));
        check.noArgument("fathoms 0", () -> x.lay(2, 3, 4, 0));
        check.noArgument("fathoms 201", () -> x.lay(2, 3, 4, 201));
        check.noArgument("two are one", () -> x.lay(3, 3, 4, 1));
        check.noIndex("no such yarn", () -> x.lay(3, 4, 5, 0));
        check.noIndex("no such yarn ahead of two that are one", () -> x.lay(3, 3, -1, 1));
        check.due("acts", 2, () -> x.count(14));
        YearRope y = Check.shed(YARNS);
        for (int i = 0; i < 8; i++) {
            y.lay(0, 2, 3, 2);
        }
        check.noSupport("a ninth", () -> y.lay(0, 2, 3, 2));
        check.noState("a ninth of too many fathoms", () -> y.lay(0, 2, 3, 25));
        check.noArgument("a ninth of two alike", () -> y.lay(0, 0, 3, 25));
        check.due("yarn 0 has 24 still", 24, () -> y.yarn(0, 1));
    }

    private static void tars(Check check) {
        YearRope x = withBroken();
        Check.law(x, "wear 30");
        x.seasons(1);
        check.due("tarred", 1, () -> x.tar(1));
        check.due("wear 31 less 5", 26, () -> x.rope(1, 5));
        for (int i = 2; i <= 9; i++) {
            int want = i;
            check.due("tar " + i, want, () -> x.tar(1));
        }
        check.due("wear 0 at least", 0, () -> x.rope(1, 5));
        x.seasons(1);
        check.due("tar 9 at most", 9, () -> x.tar(1));
        check.due("wear is less all the same", 25, () -> x.rope(1, 5));
        check.noState("a broken one", () -> x.tar(0));
        check.noIndex("rope 2", () -> x.tar(2));
        check.noIndex("rope -1", () -> x.tar(-1));
    }

    private static void whips(Check check) {
        YearRope x = withBroken();
        check.due("whipped", true, () -> x.whip(1));
        check.due("again", false, () -> x.whip(1));
        check.due("both are acts", 3, () -> x.count(14));
        check.due("it is", 1, () -> x.rope(1, 6));
        check.noState("a broken one", () -> x.whip(0));
        check.noIndex("rope 2", () -> x.whip(2));
        check.noIndex("rope -1", () -> x.whip(-1));
    }

    private static void doubles(Check check) {
        YearRope x = withBroken();
        check.due("doubled", 2, () -> x.twice(1));
        check.due("8 by 2", 4, () -> x.rope(1, 3));
        check.due("doubled again", 4, () -> x.twice(1));
        check.due("and again", 8, () -> x.twice(1));
        check.due("long 1", 1, () -> x.rope(1, 3));
        check.noState("8 plies", () -> x.twice(1));
        check.noState("a broken one", () -> x.twice(0));
        check.noIndex("rope 2", () -> x.twice(2));
        check.noIndex("rope -1", () -> x.twice(-1));
        x.lay(2, 3, 4, 3);
        check.due("3 by 2", 2, () -> x.twice(2));
        check.due("rounded down", 1, () -> x.rope(2, 3));
        check.noState("long 1 cannot be", () -> x.twice(2));
        x.lay(2, 3, 4, 100);
        x.twice(3);
        x.twice(3);
        x.twice(3);
        check.noState("8 plies, long 12", () -> x.twice(3));
    }

    private static void cuts(Check check) {
        YearRope x = withBroken();
        x.tar(1);
        x.twice(1);
        x.whip(1);
        x.hang(1, 3);
        check.due("cut", 2, () -> x.cut(1, 3));
        int[] old = {2, 3, 4, 1, 1, 0, 1, 2, 0, 3};
        int[] piece = {2, 3, 4, 3, 1, 0, 0, 2, 0, 0};
        for (int what = 0; what < 10; what++) {
            int w = what;
            check.due("the old one's what " + w, old[w], () -> x.rope(1, w));
            check.due("the new one's what " + w, piece[w], () -> x.rope(2, w));
        }
        check.noArgument("n 0", () -> x.cut(2, 0));
        check.noArgument("n is its long", () -> x.cut(2, 3));
        check.noArgument("long 1", () -> x.cut(1, 1));
        check.noArgument("n below 0", () -> x.cut(2, Integer.MIN_VALUE));
        check.noState("a broken one", () -> x.cut(0, 9));
        check.noArgument("a broken one's long", () -> x.cut(0, 10));
        check.noIndex("rope 3 ahead of n", () -> x.cut(3, 0));
        check.noIndex("rope -1", () -> x.cut(-1, 1));
        for (int i = 3; i < 8; i++) {
            x.lay(2, 3, 4, 9);
        }
        check.noSupport("a ninth", () -> x.cut(7, 1));
        check.noArgument("a ninth of none", () -> x.cut(7, 9));
        check.noState("a ninth of a broken one", () -> x.cut(0, 1));
        check.due("the seventh is as long", 9, () -> x.rope(7, 3));
    }

    private static void hangs(Check check) {
        YearRope x = withBroken();
        check.due("nothing hung", 0, () -> x.hang(1, 999));
        check.due("999 hung", 999, () -> x.hang(1, 0));
        check.due("taken off", 0, () -> x.hang(1, 0));
        check.due("all are acts", 4, () -> x.count(14));
        check.noArgument("load -1", () -> x.hang(1, -1));
        check.noArgument("load 1000", () -> x.hang(1, 1000));
        check.noArgument("load 1000 of a broken one", () -> x.hang(0, 1000));
        check.noState("a broken one", () -> x.hang(0, 0));
        check.noIndex("rope 2 ahead of the load", () -> x.hang(2, -1));
        check.noIndex("rope -1", () -> x.hang(-1, 0));
    }

    private static void meets(Check check) {
        YearRope x = withBroken();
        // rope 1 BEARS 5 and is long 8
        Check.walk(x, "order 5 long 8 pay 7;order 6 long 1 pay 8;order 1 long 9 pay 9;order 1 long 1 pay 4");
        check.noState("it bears 5 alone", () -> x.meet(1, 1));
        check.noState("it is long 8 alone", () -> x.meet(2, 1));
        check.noState("a broken one", () -> x.meet(3, 0));
        check.noIndex("order 4", () -> x.meet(4, 1));
        check.noIndex("order -1", () -> x.meet(-1, 1));
        check.noIndex("rope 2", () -> x.meet(0, 2));
        check.noIndex("rope -1", () -> x.meet(0, -1));
        check.due("met just so", 7, () -> x.meet(0, 1));
        check.due("it hangs", 5, () -> x.rope(1, 9));
        check.due("earned", 7, () -> x.count(11));
        check.due("the order is gone", 3, () -> x.count(2));
        check.due("the next has its number", 6, () -> x.order(0, 0));
        check.due("the last too", 4, () -> x.order(2, 2));
        check.noState("something hangs on it", () -> x.meet(2, 1));
        x.hang(1, 0);
        check.due("taken off, it meets the last", 4, () -> x.meet(2, 1));
        check.due("earned in all", 11, () -> x.count(11));
        check.due("orders left", 2, () -> x.count(2));
        // load is a fact of the law: what hangs on the rope counts, and nothing does while it is asked
        YearRope y = Check.shed(YARNS + ";rope 2 3 4 long 9;order 9 long 1 pay 1");
        Check.law(y, "bear 4 if load < 1");
        check.due("bears 9 while nothing hangs", 1, () -> y.meet(0, 0));
        check.due("and 5 then", 5, () -> y.rope(0, 10));
    }

    private static void picks(Check check) {
        YearRope x = withBroken();
        x.lay(0, 1, 2, 7);
        x.hang(2, 6);
        check.due("a broken one", 2, () -> x.pick(0));
        check.due("no one is broken", 0, () -> x.count(12));
        check.due("those behind have a number less", 7, () -> x.rope(1, 3));
        check.due("a loaded one", 1, () -> x.pick(1));
        check.due("its load is gone", 0, () -> x.count(8));
        check.due("but did not fall", 999, () -> x.count(9));
        check.due("its yarn is not back", 23, () -> x.yarn(0, 1));
        check.noIndex("rope 1", () -> x.pick(1));
        check.noIndex("rope -1", () -> x.pick(-1));
        check.due("the last", 0, () -> x.pick(0));
        check.noIndex("none", () -> x.pick(0));
        check.due("acts", 6, () -> x.count(14));
    }
}

/** Promises 7 (yarn), 8 (rope), 9 (order), 10 (bears), 45 (count). */
public final class AskTest {

    public static void main(String[] args) {
        Check check = new Check("AskTest");
        yarns(check);
        ropes(check);
        orders(check);
        trialRopes(check);
        counts(check);
        check.end();
    }

    private static YearRope shed() {
        return Check.shed("yarn 5 long 40 rot 1 reign 0;yarn 8 long 30 rot 0 reign 1;yarn 3 long 50 rot 2 reign 0;"
                + "yarn 2 long 10 rot 9 reign 5;rope 0 1 2 long 6;rope 2 0 1 long 4;rope 3 1 2 long 10");
    }

    private static void yarns(Check check) {
        YearRope x = shed();
        int[][] dues = {{0, 5, 30, 1, 0, 13, 3}, {1, 8, 10, 0, 1, 25, 7}, {3, 2, 0, 9, 5, 5, 4}};
        for (int[] due : dues) {
            for (int what = 0; what < 6; what++) {
                int w = what;
                check.due("yarn " + due[0] + " what " + w, due[w + 1], () -> x.yarn(due[0], w));
            }
        }
        check.noElement("what 6", () -> x.yarn(0, 6));
        check.noElement("what -1", () -> x.yarn(0, -1));
        check.noIndex("yarn 4", () -> x.yarn(4, 0));
        check.noIndex("yarn -1 ahead of what 9", () -> x.yarn(-1, 9));
    }

    private static void ropes(Check check) {
        YearRope x = shed();
        x.tar(1);
        x.whip(1);
        x.hang(1, 5);
        x.seasons(1);
        x.twice(0);
        // yarns, long, tar, wear, whipped, plies, broken, load, bears, wears, price, same
        int[][] dues = {{0, 1, 2, 2, 0, 1, 0, 2, 0, 0, 26, 1, 8, 2}, {2, 0, 1, 4, 1, 1, 1, 1, 0, 5, 13, 1, 17, 1},
            {3, 1, 2, 9, 0, 1, 0, 1, 0, 0, 9, 1, 31, 0}};
        for (int rope = 0; rope < dues.length; rope++) {
            for (int what = 0; what < 14; what++) {
                int r = rope;
                int w = what;
                check.due("rope " + r + " what " + w, dues[r][w], () -> x.rope(r, w));
            }
        }
        x.hang(2, 10);
        x.seasons(1);
        int[] broken = {3, 1, 2, 9, 0, 1, 0, 1, 1, 0, 0, 1, 0, 0};
        for (int what = 0; what < 14; what++) {
            int w = what;
            check.due("a broken rope's what " + w, broken[w], () -> x.rope(2, w));
        }
        check.due("a broken rope still uses its yarns", 4, () -> x.yarn(3, 5));
        check.noElement("what 14", () -> x.rope(0, 14));
        check.noElement("what -1", () -> x.rope(0, -1));
        check.noIndex("rope 3", () -> x.rope(3, 0));
        check.noIndex("rope -1 ahead of what 99", () -> x.rope(-1, 99));
    }

    private static void orders(Check check) {
        YearRope x = Check.shed("order 400 long 60 pay 99;order 1 long 1 pay 0");
        check.due("load", 400, () -> x.order(0, 0));
        check.due("long", 60, () -> x.order(0, 1));
        check.due("pay", 99, () -> x.order(0, 2));
        check.due("pay of the second", 0, () -> x.order(1, 2));
        check.noElement("what 3", () -> x.order(0, 3));
        check.noElement("what -1", () -> x.order(0, -1));
        check.noIndex("order 2 ahead of what 3", () -> x.order(2, 3));
        check.noIndex("order -1", () -> x.order(-1, 0));
    }

    private static void trialRopes(Check check) {
        YearRope x = shed();
        check.due("4 + 8 + 1", 13, () -> x.bears(2, 1, 0, 1));
        check.due("longer than the shed has", 13, () -> x.bears(0, 1, 2, 400));
        Check.law(x, "bear 10 if long > 399;fail 1 if whipped or plies > 1 or tar + worn + load > 0;bear 2 if long < 2");
        check.due("long 400", 23, () -> x.bears(0, 1, 2, 400));
        check.due("long 399", 13, () -> x.bears(0, 1, 2, 399));
        check.due("long 1", 15, () -> x.bears(0, 1, 2, 1));
        check.noArgument("long 0", () -> x.bears(0, 1, 2, 0));
        check.noArgument("long 401", () -> x.bears(0, 1, 2, 401));
        check.noArgument("first is second", () -> x.bears(1, 1, 2, 5));
        check.noArgument("first is third", () -> x.bears(1, 2, 1, 5));
        check.noArgument("second is third", () -> x.bears(0, 2, 2, 5));
        check.noIndex("no fourth yarn ahead of a long", () -> x.bears(0, 1, 4, 0));
        check.noIndex("no first yarn ahead of two alike", () -> x.bears(-1, 1, 1, 5));
        check.noIndex("no second yarn", () -> x.bears(0, Integer.MAX_VALUE, 1, 5));
    }

    private static void counts(Check check) {
        YearRope x = shed();
        Check.walk(x, "order 9 long 3 pay 8;gale 3;damp 0;hang 2 10;hang 1 7");
        x.meet(0, 0);
        check.due("loads that hang", 26, () -> x.count(8));
        x.seasons(2);
        int[] dues = {4, 3, 0, 2, -1, 2, 3, 0, 16, 10, 1, 8, 4, 1, 2};
        for (int what = 0; what < dues.length; what++) {
            int w = what;
            check.due("count " + w, dues[w], () -> x.count(w));
        }
        check.due("count 15", -1, () -> x.count(15));
        check.due("count -1", -1, () -> x.count(-1));
    }
}

/** Promises 20 (best), 21 (cheapest), 22 (can), 23 (most), 24 (cuts), 25 (walks), 28 (oakum), 36 (lasts). */
public final class ChooseTest {

    private static final String YARNS = "yarn 5 long 40 rot 1 reign 0;yarn 8 long 30 rot 0 reign 1;"
            + "yarn 3 long 50 rot 2 reign 0;yarn 6 long 10 rot 3 reign 2;yarn 8 long 40 rot 0 reign 1";

    public static void main(String[] args) {
        Check check = new Check("ChooseTest");
        best(check);
        full(check);
        cheapest(check);
        can(check);
        most(check);
        cuts(check);
        walks(check);
        oakum(check);
        lasts(check);
        check.end();
    }

    private static void best(Check check) {
        YearRope x = Check.shed(YARNS);
        check.due("4 + 8 + 8", 14, () -> x.best(30));
        check.due("without yarn 1: 4 + 1 + 8", 24, () -> x.best(40));
        check.due("too long", -1, () -> x.best(41));
        check.noArgument("length 0", () -> x.best(0));
        check.noArgument("length 201", () -> x.best(201));
        check.due("length 200", -1, () -> x.best(200));
        Check.law(x, "bear 50 if reigns > 2");
        check.due("three reigns: 0 1 3 is the first of its like", 13, () -> x.best(10));
        Check.law(x, "bear 50 if long > 9 and reigns > 2;fail 99 if long < 10");
        check.due("all bear nothing: the first", 12, () -> x.best(9));
        YearRope y = Check.shed("yarn 5 long 9 rot 0 reign 0;yarn 8 long 9 rot 0 reign 1");
        check.due("no three", -1, () -> y.best(1));
        YearRope z = Check.shed("yarn 1 long 9 rot 0 reign 0;yarn 1 long 9 rot 0 reign 0;yarn 9 long 9 rot 0 reign 0;"
                + "yarn 9 long 9 rot 0 reign 0;yarn 9 long 8 rot 0 reign 0");
        check.due("by 100, 10 and 1", 234, () -> z.best(8));
        check.due("the first of two alike", 23, () -> z.best(9));
    }

    private static void cheapest(Check check) {
        YearRope x = Check.shed(YARNS + ";order 13 long 10 pay 0;order 20 long 30 pay 0;order 20 long 31 pay 0;"
                + "order 9 long 1 pay 0;order 12 long 11 pay 0");
        check.due("strength 16: 0 1 2 ahead of 0 2 4", 12, () -> x.cheapest(0));
        check.due("20 by strength 21", 14, () -> x.cheapest(1));
        check.due("too long for yarn 1", -1, () -> x.cheapest(2));
        check.due("strength 14 bears 4 + 1 + 3 alone", 12, () -> x.cheapest(3));
        check.due("yarn 3 is too short", 12, () -> x.cheapest(4));
        Check.law(x, "bear 9 if rot > 5");
        check.due("rot 6: strength 14", 23, () -> x.cheapest(3));
        check.noIndex("order 5", () -> x.cheapest(5));
        check.noIndex("order -1", () -> x.cheapest(-1));
        Check.law(x, "bear 1 if long > 30");
        check.due("the trial rope is as long as the order", -1, () -> x.cheapest(2));
        Check.law(x, "bear 7 if long > 30");
        check.due("and bears by it: 0 2 4", 24, () -> x.cheapest(2));
    }

    /** As many yarns, ropes and orders as there can be, the strongest, each order for all and each rope for all. */
    private static void full(Check check) {
        String yarns = "yarn 30 long 200 rot 0 reign 5;yarn 30 long 200 rot 0 reign 5;yarn 30 long 200 rot 0 reign 5;"
                + "yarn 30 long 200 rot 0 reign 5;yarn 30 long 200 rot 0 reign 5";
        String ropes = "rope 0 1 2 long 4;rope 1 2 3 long 4;rope 2 3 4 long 4;rope 3 4 5 long 4;rope 4 5 6 long 4;"
                + "rope 5 6 7 long 4;rope 6 7 8 long 4;rope 7 8 9 long 4";
        String orders = "order 90 long 1 pay 9;order 90 long 2 pay 9;order 90 long 3 pay 9;order 90 long 4 pay 9";
        YearRope x = Check.shed(yarns, yarns, ropes, orders, orders);
        check.due("best", 12, () -> x.best(188));
        check.due("best of the longest", -1, () -> x.best(199));
        check.due("cheapest", 12, () -> x.cheapest(7));
        check.due("can by ropes", 255, () -> x.can(false));
        check.due("can by yarns", 255, () -> x.can(true));
        check.due("most", 255, () -> x.most(false));
        check.due("pay", 72, () -> x.most(true));
        check.due("cuts: 1, 2 of the first and 1 of the second", 19, () -> x.cuts(7, false));
        check.due("walks by four", 5, () -> x.walks(4));
        check.due("walks by one", 20, () -> x.walks(1));
        check.due("oakum", 120, () -> x.oakum(90, 0, 0));
        check.due("none is sure", 0, () -> x.oakum(90, 0, 1));
        check.due("each is in 36", 0, () -> x.oakum(90, 0, 2));
        check.due("lasts", 634, () -> x.lasts(1));
        check.due("weakest", 0, x::weakest);
        check.due("skips", 255, x::skips);
        check.due("loose", 255, x::loose);
        check.due("buys all", 255, () -> x.buys(9999));
        for (int i = 0; i < 8; i++) {
            x.hang(i, 90);
        }
        check.due("fewest", 255, x::fewest);
        check.due("all unravel", 255, () -> x.trial(4, false));
        check.due("all loads fall", 720, () -> x.trial(4, true));
        check.due("span", 8, () -> x.span(4, false));
        check.due("uses of yarn 2", 7, () -> x.yarn(2, 5));
        check.due("uses of yarn 9", 128, () -> x.yarn(9, 5));
        check.due("loads", 720, () -> x.count(8));
        check.due("picked", 7, () -> x.pick(7));
        check.due("none can", 0, () -> x.can(false));
    }

    private static void can(Check check) {
        YearRope x = Check.shed(YARNS + ";rope 0 1 2 long 6;rope 0 2 4 long 3;order 13 long 4 pay 0;"
                + "order 14 long 1 pay 0;order 13 long 7 pay 0;order 1 long 60 pay 0;order 400 long 1 pay 0");
        check.due("by ropes", 1, () -> x.can(false));
        check.due("by yarns", 7, () -> x.can(true));
        x.hang(0, 1);
        check.due("something hangs on the long one", 0, () -> x.can(false));
        x.hang(0, 0);
        x.hang(1, 99);
        x.seasons(1);
        check.due("the short one is broken", 1, () -> x.can(false));
        x.pick(0);
        check.due("a broken one meets nothing", 0, () -> x.can(false));
        YearRope y = Check.shed("order 1 long 1 pay 0");
        check.due("no ropes", 0, () -> y.can(false));
        check.due("no yarns", 0, () -> y.can(true));
    }

    private static void most(Check check) {
        // ropes: 13 long 6, 13 long 3, 20 long 2; orders by which can: 0 by r0; 1 by r0, r1; 2 by all; 3 by r2; 4 by none
        YearRope x = Check.shed(YARNS + ";rope 0 1 2 long 6;rope 0 2 4 long 3;rope 0 1 4 long 2",
                "order 13 long 5 pay 9;order 5 long 3 pay 1;order 1 long 1 pay 5;order 20 long 1 pay 3;order 21 long 1 pay 99");
        check.due("three of the first four, least: 0 1 2", 7, () -> x.most(false));
        check.due("most pay: 0 2 3", 17, () -> x.most(true));
        x.hang(0, 1);
        check.due("without the first: 1 2", 6, () -> x.most(false));
        check.due("pay 2 3", 8, () -> x.most(true));
        x.hang(1, 1);
        x.hang(2, 1);
        check.due("none are free", 0, () -> x.most(false));
        check.due("no pay", 0, () -> x.most(true));
        YearRope y = Check.shed(YARNS + ";rope 0 1 2 long 6;order 1 long 1 pay 0;order 1 long 1 pay 4");
        check.due("an order without pay counts", 1, () -> y.most(false));
        check.due("pay is by another set", 4, () -> y.most(true));
    }

    private static void cuts(Check check) {
        YearRope x = Check.shed(YARNS + ";rope 0 1 2 long 6;order 13 long 4 pay 5;order 14 long 1 pay 90;"
                + "order 1 long 2 pay 3;order 1 long 3 pay 4;order 1 long 3 pay 4;order 1 long 1 pay 0");
        check.due("0 2 and 3 4 pay 8", 5, () -> x.cuts(0, false));
        check.due("8", 8, () -> x.cuts(0, true));
        x.hang(0, 9);
        check.due("a load that hangs does not count", 8, () -> x.cuts(0, true));
        x.seasons(1);
        check.due("long 5: 2 3 ahead of 2 4", 12, () -> x.cuts(0, false));
        check.due("7", 7, () -> x.cuts(0, true));
        Check.law(x, "bear 1");
        check.due("it bears 14: 0 1", 3, () -> x.cuts(0, false));
        Check.law(x, "fail 99");
        check.due("it bears nothing", 0, () -> x.cuts(0, false));
        x.seasons(1);
        Check.law(x, "");
        check.due("broken", 0, () -> x.cuts(0, false));
        check.due("broken pay", 0, () -> x.cuts(0, true));
        check.noIndex("rope 1", () -> x.cuts(1, false));
        check.noIndex("rope -1", () -> x.cuts(-1, true));
    }

    private static void walks(Check check) {
        YearRope x = Check.shed("order 1 long 7 pay 0;order 1 long 6 pay 0;order 1 long 5 pay 0;order 1 long 4 pay 0;"
                + "order 1 long 4 pay 0;order 1 long 3 pay 0;order 1 long 3 pay 0;order 1 long 10 pay 0");
        int[] hours = {42, 21, 14, 11, 10};
        for (int men = 1; men <= 5; men++) {
            int m = men;
            check.due(m + " men", hours[m - 1], () -> x.walks(m));
        }
        check.noArgument("no man", () -> x.walks(0));
        check.noArgument("six men", () -> x.walks(6));
        check.noArgument("-1 men", () -> x.walks(-1));
        // the longest first would give 3 2 2 and 3 2: 7
        YearRope y = Check.shed("order 1 long 3 pay 0;order 1 long 3 pay 0;order 1 long 2 pay 0;order 1 long 2 pay 0;"
                + "order 1 long 2 pay 0");
        check.due("3 3 and 2 2 2", 6, () -> y.walks(2));
        check.due("more men than can help", 3, () -> y.walks(5));
    }

    private static void oakum(Check check) {
        YearRope x = Check.shed("yarn 4 long 0 rot 1 reign 0;yarn 4 long 1 rot 1 reign 0;yarn 4 long 1 rot 1 reign 0;"
                + "yarn 4 long 1 rot 1 reign 0;yarn 9 long 0 rot 2 reign 0;yarn 5 long 0 rot 1 reign 0");
        check.due("012 013 023 123", 4, () -> x.oakum(12, 3, 0));
        check.due("none is in all", 0, () -> x.oakum(12, 3, 1));
        check.due("each of 0 to 3 is in three, 4 in none: 3 is the least part", 0, () -> x.oakum(12, 3, 2));
        check.due("with 4 go six pairs", 6, () -> x.oakum(17, 4, 0));
        check.due("4 is sure", 16, () -> x.oakum(17, 4, 1));
        check.due("0 is in three of six", 0, () -> x.oakum(17, 4, 2));
        check.due("4, 5 and one of four", 4, () -> x.oakum(18, 4, 0));
        check.due("4 and 5 are sure", 48, () -> x.oakum(18, 4, 1));
        check.due("no three", 0, () -> x.oakum(18, 3, 0));
        check.due("none sure", 0, () -> x.oakum(18, 3, 1));
        check.due("none to ask", -1, () -> x.oakum(18, 3, 2));
        check.due("numbers that cannot be", 0, () -> x.oakum(Integer.MIN_VALUE, Integer.MAX_VALUE, 0));
        check.noElement("what 3", () -> x.oakum(12, 3, 3));
        check.noElement("what -1", () -> x.oakum(12, 3, -1));
        YearRope y = Check.shed("yarn 1 long 0 rot 0 reign 0;yarn 2 long 0 rot 0 reign 0;yarn 4 long 0 rot 0 reign 0;"
                + "yarn 8 long 0 rot 0 reign 0;yarn 5 long 0 rot 0 reign 0");
        check.due("one three alone", 1, () -> y.oakum(13, 0, 0));
        check.due("is sure", 13, () -> y.oakum(13, 0, 1));
        check.due("and asks nothing", -1, () -> y.oakum(13, 0, 2));
        check.due("0 3 4 and 1 2 3", 2, () -> y.oakum(14, 0, 0));
        check.due("3 is in both", 8, () -> y.oakum(14, 0, 1));
        check.due("0 is in one of two", 0, () -> y.oakum(14, 0, 2));
        // 1 + 2 + 5 and 1 + 3 + 4: yarn 1 is in both, yarn 0 in none, the others in one
        YearRope z = Check.shed("yarn 9 long 0 rot 0 reign 0;yarn 1 long 0 rot 0 reign 0;yarn 2 long 0 rot 0 reign 0;"
                + "yarn 5 long 0 rot 0 reign 0;yarn 3 long 0 rot 0 reign 0;yarn 4 long 0 rot 0 reign 0");
        check.due("1 2 3 and 1 4 5", 2, () -> z.oakum(8, 0, 0));
        check.due("2 is the least that is in one", 2, () -> z.oakum(8, 0, 2));
    }

    private static void lasts(Check check) {
        YearRope x = Check.shed(YARNS);
        check.due("pieces 4 3 5 1 4", 5, () -> x.lasts(10));
        check.due("pieces 2 1 2 0 2", 2, () -> x.lasts(20));
        check.due("pieces 1 1 1 0 1", 1, () -> x.lasts(30));
        check.due("pieces 1 0 1 0 1", 1, () -> x.lasts(40));
        check.due("pieces 0 0 1 0 0", 0, () -> x.lasts(41));
        check.due("too long", 0, () -> x.lasts(200));
        check.due("170 by 3, rounded down", 56, () -> x.lasts(1));
        check.noArgument("length 0", () -> x.lasts(0));
        check.noArgument("length 201", () -> x.lasts(201));
        YearRope y = Check.shed("yarn 1 long 200 rot 0 reign 0;yarn 1 long 200 rot 0 reign 0;yarn 1 long 3 rot 0 reign 0;"
                + "yarn 1 long 2 rot 0 reign 0");
        check.due("two long ones need a third each time", 5, () -> y.lasts(1));
        YearRope z = Check.shed("yarn 1 long 200 rot 0 reign 0;yarn 1 long 200 rot 0 reign 0");
        check.due("two are not three", 0, () -> z.lasts(1));
    }
}

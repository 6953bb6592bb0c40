/** Promises 26 (share), 27 (shared), 29 (holds), 30 (would), 31 (weakest), 32 (fewest), 33 (buys), 34 (skips), 35 (loose). */
public final class BearTest {

    private static final String YARNS = "yarn 5 long 90 rot 1 reign 0;yarn 8 long 30 rot 0 reign 1;"
            + "yarn 3 long 50 rot 2 reign 0;yarn 6 long 50 rot 3 reign 2;yarn 8 long 40 rot 0 reign 1";

    public static void main(String[] args) {
        Check check = new Check("BearTest");
        shares(check);
        holds(check);
        changes(check);
        would(check);
        weakest(check);
        fewest(check);
        buys(check);
        bits(check);
        check.end();
    }

    private static void shares(Check check) {
        // ropes BEAR 13 and 20
        YearRope x = Check.shed(YARNS + ";rope 0 1 2 long 9;rope 0 1 4 long 9;rope 0 1 4 long 9;hang 2 99");
        x.seasons(1);
        check.due("33 by 13 of 33", 13, () -> x.share(0, 1, 33));
        check.due("both just bear it", true, () -> x.shared(0, 1, 33));
        check.due("34: 13.39", 13, () -> x.share(0, 1, 34));
        check.due("the rest is too much", false, () -> x.shared(0, 1, 34));
        check.due("the other way: 20.6", 20, () -> x.share(1, 0, 34));
        check.due("too much there too", false, () -> x.shared(1, 0, 34));
        check.due("nothing", 0, () -> x.share(0, 1, 0));
        check.due("is borne", true, () -> x.shared(0, 1, 0));
        check.due("9999", 3939, () -> x.share(0, 1, 9999));
        check.due("a broken one has nothing", 0, () -> x.share(2, 0, 10));
        check.due("the other all", true, () -> x.shared(2, 0, 13));
        check.due("and no more", false, () -> x.shared(0, 2, 14));
        check.noArgument("load -1", () -> x.share(0, 1, -1));
        check.noArgument("load 10000", () -> x.share(0, 1, 10000));
        check.noArgument("both are one", () -> x.share(1, 1, 5));
        check.noArgument("shared load -1", () -> x.shared(0, 1, -1));
        check.noArgument("shared load 10000", () -> x.shared(0, 1, 10000));
        check.noArgument("shared by one", () -> x.shared(1, 1, 5));
        check.noIndex("rope 3 ahead of the load", () -> x.share(0, 3, -1));
        check.noIndex("rope -1", () -> x.share(-1, 0, 1));
        check.noIndex("no rope, both one", () -> x.share(3, 3, 1));
        check.noIndex("shared rope 3", () -> x.shared(0, 3, -1));
        check.noIndex("shared rope -1", () -> x.shared(-1, 0, 1));
        Check.law(x, "fail 99");
        check.due("both bear nothing", 0, () -> x.share(0, 1, 5));
        check.due("the second has the rest", false, () -> x.shared(0, 1, 5));
        check.due("of nothing", true, () -> x.shared(0, 1, 0));
        Check.law(x, "fail 19");
        check.due("the second bears 1, the first nothing", 5, () -> x.share(1, 0, 5));
    }

    private static void holds(Check check) {
        YearRope x = Check.shed(YARNS + ";gale 100;damp 100;rope 0 1 2 long 5;rope 0 1 2 long 1;rope 0 1 2 long 20;"
                + "whip 2;hang 2 13;rope 0 1 2 long 3;whip 3");
        check.due("long 5", 4, () -> x.holds(0, false));
        check.due("long 1", 0, () -> x.holds(1, false));
        check.due("13 till wear 10, without gales and damp", 10, () -> x.holds(2, false));
        check.due("whipped, nothing hangs", 40, () -> x.holds(3, false));
        check.due("nothing stays", 0, () -> x.rope(2, 5));
        check.due("not even in the log", 0, () -> x.count(13));
        x.hang(2, 14);
        check.due("it breaks in the first", 0, () -> x.holds(2, false));
        check.noIndex("rope 4", () -> x.holds(4, false));
        check.noIndex("rope -1", () -> x.holds(-1, true));
        Check.walk(x, "gale 0;damp 0");
        x.seasons(1);
        check.due("a broken one", 0, () -> x.holds(1, false));
        Check.law(x, "fail 13 if winter;wear 0");
        x.hang(3, 1);
        check.due("season 1: it falls in winter, the third season", 2, () -> x.holds(3, false));
        Check.law(x, "wear 0 if winter;wear 2 if not winter");
        x.hang(3, 8);
        check.due("wear 1 + 2 2 0 2 2 2 0 ..: 61 behind 40", 40, () -> x.holds(3, false));
        x.hang(3, 9);
        check.due("wear 51 behind 33: 13 - 5 is below 9", 33, () -> x.holds(3, false));
    }

    private static void changes(Check check) {
        YearRope x = Check.shed(YARNS + ";gale 100;damp 100;rope 0 1 2 long 9;whip 0;rope 2 3 4 long 3");
        check.due("nothing hangs: none", -1, () -> x.holds(0, true));
        x.hang(0, 6);
        check.due("13 is 12 behind 10, 11 behind 20", 20, () -> x.holds(0, true));
        x.hang(0, 7);
        check.due("13 is less than 14 now", 0, () -> x.holds(0, true));
        x.hang(0, 5);
        check.due("9 behind 40", 40, () -> x.holds(0, true));
        x.hang(0, 4);
        check.due("8 would be behind 50", -1, () -> x.holds(0, true));
        x.hang(1, 6);
        check.due("12 till it unravels", -1, () -> x.holds(1, true));
        x.hang(1, 13);
        check.due("too much: still it is changed now", 0, () -> x.holds(1, true));
        x.seasons(1);
        check.due("broken", -1, () -> x.holds(1, true));
        check.due("broken holds", 0, () -> x.holds(1, false));
        YearRope y = Check.shed(YARNS + ";rope 0 1 2 long 9;whip 0;hang 0 2");
        Check.law(y, "fail 10 if winter;wear 0");
        check.due("less than twice 2 in the first winter", 3, () -> y.holds(0, true));
    }

    private static void would(Check check) {
        YearRope x = Check.shed(YARNS + ";rope 0 1 2 long 9;rope 0 1 2 long 2;rope 0 1 2 long 1;hang 2 99");
        Check.law(x, "wear 12;bear 3 if tar > 0;bear 5 if whipped;bear 7 if long < 5;bear 1 if worn < 8");
        x.seasons(1);
        check.due("now", 12, () -> x.rope(0, 10));
        check.due("tarred: wear 7", 17, () -> x.would(0, 0));
        check.due("doubled: long 4", 38, () -> x.would(0, 1));
        check.due("whipped", 17, () -> x.would(0, 2));
        check.due("nothing stays", 12, () -> x.rope(0, 10));
        check.due("no act", 1, () -> x.count(14));
        check.due("long 1 cannot be doubled", 19, () -> x.would(1, 1));
        for (int what = 0; what < 3; what++) {
            int w = what;
            check.due("a broken one, what " + w, 0, () -> x.would(2, w));
        }
        x.twice(0);
        x.lay(0, 1, 2, 16);
        x.twice(3);
        x.twice(3);
        x.twice(3);
        check.due("8 plies cannot be doubled", 168, () -> x.would(3, 1));
        check.noElement("what 3", () -> x.would(0, 3));
        check.noElement("what -1", () -> x.would(2, -1));
        check.noIndex("rope 4 ahead of what", () -> x.would(4, 3));
        check.noIndex("rope -1", () -> x.would(-1, 0));
    }

    private static void weakest(Check check) {
        YearRope x = Check.shed(YARNS + ";rope 0 1 2 long 9;rope 0 1 4 long 9;rope 0 2 4 long 9");
        check.due("13, 20, 13", 0, x::weakest);
        x.hang(1, 8);
        check.due("13, 12, 13", 1, x::weakest);
        x.hang(2, 40);
        check.due("13, 12, -27", 2, x::weakest);
        x.seasons(1);
        check.due("the third is broken", 1, x::weakest);
        x.hang(0, 14);
        x.hang(1, 21);
        x.seasons(1);
        check.due("all are", -1, x::weakest);
    }

    private static void fewest(Check check) {
        YearRope x = Check.shed(YARNS + ";rope 0 1 2 long 9;rope 0 1 4 long 9;rope 0 2 4 long 9;rope 0 1 2 long 1");
        check.due("no loads", 0, x::fewest);
        x.hang(0, 13);
        check.due("13 by the first", 1, x::fewest);
        x.hang(1, 1);
        check.due("14 by the second", 2, x::fewest);
        x.hang(2, 12);
        check.due("26 by two: 0 and 1", 3, x::fewest);
        x.hang(3, 13);
        x.hang(2, 7);
        check.due("34 by three: 0 1 2", 7, x::fewest);
        x.hang(2, 33);
        check.due("60 by all but none", -1, x::fewest);
        x.hang(2, 32);
        check.due("59 by all", 15, x::fewest);
        x.hang(2, 12);
        x.hang(1, 7);
        x.seasons(1);
        check.due("the fourth is broken", 8, () -> x.count(12));
        check.due("32 by 0 and 1", 3, x::fewest);
        x.pick(1);
        check.due("25 by 13 and 13", 3, x::fewest);
        x.hang(0, 999);
        check.due("too much", -1, x::fewest);
        YearRope y = Check.shed(YARNS + ";rope 2 3 0 long 1;rope 0 2 3 long 1;rope 0 1 4 long 1;hang 0 16");
        check.due("20 alone ahead of 8 and 8", 4, y::fewest);
    }

    private static void buys(Check check) {
        // BEARS 13, 13, 20, 4; prices of yarns 13 25 5 16 25: 43, 43, 63, 34 times long by 10
        YearRope x = Check.shed(YARNS + ";rope 0 1 2 long 10;rope 0 2 4 long 10;rope 0 1 4 long 20;rope 0 2 3 long 1");
        check.due("price", 43, () -> x.rope(0, 12));
        check.due("price", 126, () -> x.rope(2, 12));
        check.due("price", 3, () -> x.rope(3, 12));
        check.due("no coins", 0, () -> x.buys(0));
        check.due("3 coins", 8, () -> x.buys(3));
        check.due("42 coins", 8, () -> x.buys(42));
        check.due("43 coins: the first of two alike", 1, () -> x.buys(43));
        check.due("86 coins", 3, () -> x.buys(86));
        check.due("126 coins: 13 13 8 ahead of 20", 11, () -> x.buys(126));
        check.due("169 coins: 20 and 13 is less than 34 of three", 11, () -> x.buys(168));
        check.due("172 coins", 13, () -> x.buys(172));
        check.due("all", 15, () -> x.buys(9999));
        check.noArgument("-1 coins", () -> x.buys(-1));
        check.noArgument("10000 coins", () -> x.buys(10000));
        x.seasons(1);
        check.due("a broken one is worth nothing", 7, () -> x.buys(9999));
        Check.law(x, "fail 99");
        check.due("nothing bears", 0, () -> x.buys(9999));
    }

    private static void bits(Check check) {
        YearRope x = Check.shed(YARNS + ";rope 0 1 2 long 1;rope 0 1 2 long 2;rope 0 1 2 long 5;rope 0 1 2 long 6;"
                + "rope 0 1 2 long 3;hang 4 1;whip 2");
        check.due("skips: long 2 and 5", 6, x::skips);
        check.due("loose: all but the third", 27, x::loose);
        x.seasons(1);
        check.due("skips: the third and the fourth", 12, x::skips);
        check.due("loose: the first is broken", 26, x::loose);
        x.hang(4, 0);
        check.due("nothing hangs on the fifth", 28, x::skips);
        x.seasons(1);
        check.due("two are broken", 3, () -> x.count(12));
        check.due("loose", 24, x::loose);
        check.due("skips: long 4, 5, 1", 12, x::skips);
        YearRope y = Check.shed(YARNS + ";rope 0 1 2 long 4");
        check.due("skips: the first", 1, y::skips);
    }
}

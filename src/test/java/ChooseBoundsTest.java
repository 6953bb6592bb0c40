/** The boundaries of what is chosen: BEST, CHEAPEST, CAN, MOST, CUTS, WALKS, SHARE, OAKUM. */
public final class ChooseBoundsTest {

    private final Check check = new Check("ChooseBoundsTest");
    private final Bounds bounds = new Bounds(check);

    public static void main(String[] args) {
        ChooseBoundsTest test = new ChooseBoundsTest();
        test.trialRope();
        test.best();
        test.cheapest();
        test.can();
        test.most();
        test.cuts();
        test.walks();
        test.walksOfUnlike();
        test.share();
        test.oakum();
        test.check.end();
    }

    private static YearRope under(String law) {
        YearRope x = Scenes.three();
        Check.law(x, law);
        return x;
    }

    /** Yarns of these strengths, each of LENGTH 10, the last one of 9. */
    private static YearRope strengths(int... strengths) {
        YearRope x = new YearRope();
        StringBuilder text = new StringBuilder();
        for (int i = 0; i < strengths.length; i++) {
            text.append(i == 0 ? "" : ";").append("yarn ").append(strengths[i]).append(" long ")
                    .append(i == strengths.length - 1 ? 9 : 10).append(" rot 0 reign 0");
        }
        Check.walk(x, text.toString());
        return x;
    }

    /** Four yarns, all but the first of STRENGTH 5 and LENGTH 9, and an order LONG 9. */
    private static YearRope firstShort(String first) {
        return Check.shed(first + ";" + Scenes.lines("yarn 5 long 9 rot 0 reign 0", 3) + ";order 1 long 9 pay 0");
    }

    private void trialRope() {
        check.sentence("A TRIAL ROPE of three YARNS: TAR, WEAR 0, not WHIPPED, PLIES 1, nothing hangs on it, LONG as told: "
                + "what it BEARS.");
        String[] facts = {"tar", "worn", "load"};
        for (String fact : facts) {
            bounds.answers(14, fact + " is 0", () -> under("bear 1 if " + fact + " < 1"), x -> x.bears(0, 1, 2, 5));
        }
        bounds.answers(13, "behind what another WOULD BEAR", Bounds.after(() -> Check.shed(Scenes.THREE + ";rope 2 1 0 long 9;tar 0 5;"
                + "hang 0 5"), x -> Check.law(x, "bear 1 if tar + worn + load > 0 or plies > 1 or whipped"), x -> x.seasons(3),
                x -> x.would(0, 1), x -> x.would(0, 2)), x -> x.bears(0, 1, 2, 5));
        bounds.answers(13, "not WHIPPED", () -> under("bear 1 if whipped"), x -> x.bears(0, 1, 2, 5));
        bounds.answers(14, "PLIES 1", () -> under("bear 1 if plies > 0 and plies < 2"), x -> x.bears(0, 1, 2, 5));
        bounds.answers(14, "LONG 5", () -> under("bear 1 if long > 4 and long < 6"), x -> x.bears(0, 1, 2, 5));
        bounds.answers(14, "LONG 400", () -> under("bear 1 if long > 399"), x -> x.bears(0, 1, 2, 400));
        bounds.answers(13, "LONG 399", () -> under("bear 1 if long > 399"), x -> x.bears(0, 1, 2, 399));
        bounds.answers(14, "LONG 1", () -> under("bear 1 if long < 2"), x -> x.bears(0, 1, 2, 1));
        bounds.answers(13, "LONG 2", () -> under("bear 1 if long < 2"), x -> x.bears(0, 1, 2, 2));
    }

    private void best() {
        check.sentence("BEST of a LENGTH: of all three YARNS (by numbers, the least first) that have as much LENGTH, the first of "
                + "those whose TRIAL ROPE BEARS most: 100 times the first, 10 times the second, and the third; none.");
        bounds.answers(12, "as much as the shortest has", Scenes::three, x -> x.best(30));
        bounds.answers(-1, "1 more", Scenes::three, x -> x.best(31));
        bounds.answers(12, "the fourth is too short", () -> strengths(5, 5, 5, 6), x -> x.best(10));
        bounds.answers(13, "the fourth is not", () -> strengths(5, 5, 5, 6), x -> x.best(9));
        bounds.answers(12, "of alike ones the first", () -> strengths(5, 5, 5, 5, 5), x -> x.best(9));
        bounds.answers(123, "of two that bear most the first", () -> strengths(4, 5, 5, 5, 5), x -> x.best(9));
        bounds.answers(14, "first, second, fifth", () -> strengths(5, 5, 4, 4, 5), x -> x.best(9));
        bounds.answers(234, "the last three", () -> strengths(4, 4, 5, 5, 5), x -> x.best(9));
        bounds.answers(13, "5 + 9 + 5", () -> strengths(5, 9, 4, 5), x -> x.best(9));
        bounds.answers(123, "the first is too short", () -> firstShort("yarn 9 long 8 rot 0 reign 0"), x -> x.best(9));
        bounds.answers(12, "the first is not", () -> firstShort("yarn 9 long 9 rot 0 reign 0"), x -> x.best(9));
        bounds.answers(-1, "two YARNS", () -> strengths(5, 5), x -> x.best(1));
        bounds.answers(-1, "no YARNS", Scenes::empty, x -> x.best(1));
        bounds.answers(12, "if all BEAR nothing, the first", () -> under("fail 99"), x -> x.best(1));
        bounds.answers(12, "of ten, the first", Scenes::full, x -> x.best(1));
        bounds.answers(789, "the last of ten", () -> Check.shed(Scenes.lines("yarn 29 long 9 rot 0 reign 0", 7),
                Scenes.lines("yarn 30 long 9 rot 0 reign 0", 3)), x -> x.best(9));
    }

    private static YearRope ordered(String orders, int... strengths) {
        YearRope x = strengths(strengths);
        Check.walk(x, orders);
        return x;
    }

    private void cheapest() {
        check.sentence("CHEAPEST for an ORDER: of those with as much LENGTH as its LONG that BEAR its LOAD, the first of the "
                + "least STRENGTH together; none.");
        bounds.answers(12, "LOAD 15 of 15, LONG 10 of 10", () -> ordered("order 15 long 10 pay 0", 5, 5, 5, 9),
                x -> x.cheapest(0));
        bounds.answers(-1, "LOAD 16, the fourth is too short", () -> ordered("order 16 long 10 pay 0", 5, 5, 5, 9),
                x -> x.cheapest(0));
        bounds.answers(13, "LOAD 16, LONG 9", () -> ordered("order 16 long 9 pay 0", 5, 5, 5, 9), x -> x.cheapest(0));
        bounds.answers(-1, "LONG 11", () -> ordered("order 1 long 11 pay 0", 5, 5, 5, 9), x -> x.cheapest(0));
        bounds.answers(-1, "LOAD 20 of 19", () -> ordered("order 20 long 1 pay 0", 5, 5, 5, 9), x -> x.cheapest(0));
        bounds.answers(13, "LOAD 19 of 19", () -> ordered("order 19 long 1 pay 0", 5, 5, 5, 9), x -> x.cheapest(0));
        bounds.answers(123, "the least STRENGTH is the last", () -> ordered("order 1 long 1 pay 0", 5, 4, 4, 4),
                x -> x.cheapest(0));
        bounds.answers(12, "the first of alike ones", () -> ordered("order 1 long 1 pay 0", 5, 4, 4, 5), x -> x.cheapest(0));
        bounds.answers(23, "5 + 4 + 5", () -> ordered("order 1 long 1 pay 0", 5, 9, 4, 5), x -> x.cheapest(0));
        bounds.answers(123, "the first is too short", () -> firstShort("yarn 1 long 8 rot 0 reign 0"), x -> x.cheapest(0));
        bounds.answers(12, "the first is not", () -> firstShort("yarn 1 long 9 rot 0 reign 0"), x -> x.cheapest(0));
        bounds.answers(12, "as LONG as the ORDER", Bounds.after(() -> ordered("order 18 long 9 pay 0", 5, 5, 5),
                x -> Check.law(x, "bear 3 if long > 8 and long < 10")), x -> x.cheapest(0));
        bounds.answers(-1, "no longer", Bounds.after(() -> ordered("order 18 long 9 pay 0", 5, 5, 5),
                x -> Check.law(x, "bear 3 if long > 9")), x -> x.cheapest(0));
        bounds.answers(-1, "two YARNS", () -> ordered("order 1 long 1 pay 0", 5, 5), x -> x.cheapest(0));
        bounds.answers(12, "90, as much as can be", () -> ordered("order 90 long 1 pay 0", 30, 30, 30), x -> x.cheapest(0));
        bounds.answers(-1, "91", () -> ordered("order 91 long 1 pay 0", 30, 30, 30), x -> x.cheapest(0));
    }

    private static YearRope orders(String orders) {
        YearRope x = Scenes.oneRope();
        Check.walk(x, orders);
        return x;
    }

    private void can() {
        check.sentence("CAN: ORDERS that some ROPE could meet now (MET), or some three YARNS, as bits.");
        // the rope BEARS 13 and is LONG 20; the yarns have 20, 10 and 30 left
        Bounds.Scene just = () -> orders("order 13 long 20 pay 0;order 14 long 1 pay 0;order 1 long 21 pay 0;"
                + "order 13 long 10 pay 0;order 1 long 11 pay 0");
        bounds.answers(1 | 8 | 16, "LOAD 13, LONG 20", just, x -> x.can(false));
        bounds.answers(8, "LOAD 13, LONG 10 by YARNS", just, x -> x.can(true));
        bounds.answers(0, "a ROPE on which 1 hangs", Bounds.after(just, x -> x.hang(0, 1)), x -> x.can(false));
        bounds.answers(8, "what hangs does not count for YARNS", Bounds.after(just, x -> x.hang(0, 1)), x -> x.can(true));
        bounds.answers(0, "a BROKEN ROPE", Bounds.after(just, x -> x.hang(0, 14), x -> x.seasons(1)), x -> x.can(false));
        bounds.answers(0, "no ROPES", Bounds.after(just, x -> x.pick(0)), x -> x.can(false));
        bounds.answers(0, "no ORDERS", Scenes::oneRope, x -> x.can(false));
        bounds.answers(0, "no ORDERS", Scenes::oneRope, x -> x.can(true));
        bounds.answers(255, "all eight", Scenes::full, x -> x.can(false));
        bounds.answers(255, "all eight by YARNS", Scenes::full, x -> x.can(true));
    }

    private void most() {
        check.sentence("MOST: of ORDERS (as they are) the most that ROPES there are can meet, each ROPE one at most (by LOAD, "
                + "LONG, as in MET): of several such sets the least as bits; how much PAY at most ROPES can earn so (maybe by "
                + "another set).");
        Bounds.Scene three = () -> orders("order 13 long 20 pay 3;order 14 long 20 pay 8;order 13 long 20 pay 9;order 1 long 21 pay 9");
        bounds.answers(1, "one ROPE, one ORDER: the least", three, x -> x.most(false));
        bounds.answers(9, "PAY by another", three, x -> x.most(true));
        bounds.answers(0, "a ROPE on which 1 hangs", Bounds.after(three, x -> x.hang(0, 1)), x -> x.most(false));
        bounds.answers(0, "earns nothing", Bounds.after(three, x -> x.hang(0, 1)), x -> x.most(true));
        bounds.answers(0, "a BROKEN one", Bounds.after(three, x -> x.hang(0, 14), x -> x.seasons(1)), x -> x.most(false));
        bounds.answers(0, "no ROPES", Bounds.after(three, x -> x.pick(0)), x -> x.most(false));
        bounds.answers(5, "two ROPES of LONG 10, two ORDERS of three", () -> Check.shed(Scenes.THREE + ";rope 0 1 2 long 10;"
                + "rope 0 1 2 long 10;order 13 long 10 pay 1;order 13 long 11 pay 1;order 13 long 10 pay 1"), x -> x.most(false));
        bounds.answers(0, "no ORDERS", Scenes::oneRope, x -> x.most(false));
        bounds.answers(0, "no PAY", Scenes::oneRope, x -> x.most(true));
        bounds.answers(1, "an ORDER without PAY", () -> orders("order 1 long 1 pay 0"), x -> x.most(false));
        bounds.answers(255, "eight of eight", Scenes::full, x -> x.most(false));
        bounds.answers(127, "seven ROPES: the least", Bounds.after(Scenes::full, x -> x.pick(0)), x -> x.most(false));
        bounds.answers(72, "all PAY", Scenes::full, x -> x.most(true));
    }

    private void cuts() {
        check.sentence("CUTS of a ROPE: the set of ORDERS whose LONG together is its LONG at most, each LOAD what it BEARS at most "
                + "as it is now, with the most PAY together (of several the least as bits): as bits; how much.");
        bounds.answers(3, "20 of 20", () -> orders("order 13 long 9 pay 1;order 13 long 11 pay 1"), x -> x.cuts(0, false));
        bounds.answers(2, "PAY of both", () -> orders("order 13 long 9 pay 1;order 13 long 11 pay 1"), x -> x.cuts(0, true));
        bounds.answers(1, "21 of 20: the least", () -> orders("order 13 long 10 pay 1;order 13 long 11 pay 1"),
                x -> x.cuts(0, false));
        bounds.answers(2, "21 of 20: the most PAY", () -> orders("order 13 long 10 pay 1;order 13 long 11 pay 2"),
                x -> x.cuts(0, false));
        bounds.answers(0, "LOAD 14 of 13", () -> orders("order 14 long 1 pay 9"), x -> x.cuts(0, false));
        bounds.answers(1, "LOAD 13 of 13", () -> orders("order 13 long 1 pay 9"), x -> x.cuts(0, false));
        bounds.answers(0, "without PAY none is the least", () -> orders("order 1 long 1 pay 0"), x -> x.cuts(0, false));
        bounds.answers(9, "what hangs on it does not count", () -> orders("order 13 long 20 pay 9;hang 0 13"),
                x -> x.cuts(0, true));
        bounds.answers(1 | 2 | 16, "LONG 4 of eight", Scenes::full, x -> x.cuts(7, false));
        bounds.answers(0, "no ORDERS", Scenes::oneRope, x -> x.cuts(0, false));
        bounds.answers(0, "no PAY", Scenes::oneRope, x -> x.cuts(0, true));
    }

    private void walks() {
        check.sentence("WALKS by M men (1 to 5): each ORDER is walked by one man, who needs its LONG in hours, one ORDER behind "
                + "another: the fewest hours till all are walked.");
        int[] hours = {20, 10, 7, 5, 4};
        for (int men = 1; men <= 5; men++) {
            int m = men;
            bounds.answers(hours[m - 1], m + " men, twice 1 to 4 hours", Scenes::full, x -> x.walks(m));
            bounds.answers(0, m + " men, no ORDERS", Scenes::empty, x -> x.walks(m));
            bounds.answers(60, m + " men, one ORDER", () -> orders("order 1 long 60 pay 0"), x -> x.walks(m));
            bounds.answers(480 / m / 60 * 60 + (8 % m == 0 ? 0 : 60), m + " men, eight of 60 hours",
                    () -> orders(Scenes.lines("order 1 long 60 pay 0", 8)), x -> x.walks(m));
        }
    }

    /** Ropes that BEAR 13 and 9. */
    private static YearRope thirteenAndNine(String law) {
        YearRope x = Check.shed(Scenes.THREE + ";yarn 9 long 9 rot 5 reign 0;rope 0 1 2 long 1;rope 0 2 3 long 2");
        Check.law(x, law);
        return x;
    }

    private void walksOfUnlike() {
        String orders = "order 1 long 7 pay 0;order 1 long 6 pay 0;order 1 long 5 pay 0;order 1 long 4 pay 0;"
                + "order 1 long 4 pay 0;order 1 long 3 pay 0;order 1 long 3 pay 0;order 1 long 10 pay 0";
        int[] hours = {42, 21, 14, 11, 10};
        for (int men = 1; men <= 5; men++) {
            int m = men;
            bounds.answers(hours[m - 1], m + " men, 42 hours of eight ORDERS", () -> Check.shed(orders), x -> x.walks(m));
        }
        bounds.answers(0, "no ORDERS, behind MOST of them", Bounds.after(Scenes::empty, x -> x.most(false)), x -> x.walks(2));
        bounds.answers(3, "1 and 2 against 3", () -> Check.shed("order 1 long 1 pay 0;order 1 long 3 pay 0;order 1 long 2 pay 0"),
                x -> x.walks(2));
        bounds.answers(3, "the odd one alone", () -> Check.shed("order 1 long 3 pay 0;order 1 long 1 pay 0;order 1 long 2 pay 0"),
                x -> x.walks(2));
    }

    private void share() {
        check.sentence("SHARE of a LOAD by two ROPES: by what they BEAR: the first one has LOAD times BEARS of it by BEARS of both "
                + "together, rounded down (0, if both BEAR nothing), the second one the rest; whether neither has more than it "
                + "BEARS.");
        Bounds.Scene both = () -> thirteenAndNine("");
        bounds.answers(13, "22 of 22", both, x -> x.share(0, 1, 22));
        bounds.answers(9, "22, the other first", both, x -> x.share(1, 0, 22));
        bounds.answers(true, "22 is borne", both, x -> x.shared(0, 1, 22));
        bounds.answers(13, "23: 13.6", both, x -> x.share(0, 1, 23));
        bounds.answers(false, "the second has 10", both, x -> x.shared(0, 1, 23));
        bounds.answers(9, "23: 9.4", both, x -> x.share(1, 0, 23));
        bounds.answers(false, "the second has 14", both, x -> x.shared(1, 0, 23));
        bounds.answers(14, "24: 14.2", both, x -> x.share(0, 1, 24));
        bounds.answers(false, "the first has 14", both, x -> x.shared(0, 1, 24));
        bounds.answers(5908, "9999", both, x -> x.share(0, 1, 9999));
        bounds.answers(0, "0", both, x -> x.share(0, 1, 0));
        bounds.answers(0, "1: 0.6", both, x -> x.share(0, 1, 1));
        bounds.answers(true, "the second has it", both, x -> x.shared(0, 1, 1));
        Bounds.Scene nothing = () -> thirteenAndNine("fail 13");
        bounds.answers(0, "both BEAR nothing", nothing, x -> x.share(0, 1, 9999));
        bounds.answers(false, "the second has all", nothing, x -> x.shared(0, 1, 1));
        bounds.answers(true, "of nothing", nothing, x -> x.shared(0, 1, 0));
        Bounds.Scene one = () -> thirteenAndNine("fail 12");
        bounds.answers(9999, "the first alone BEARS", one, x -> x.share(0, 1, 9999));
        bounds.answers(0, "the second alone BEARS", one, x -> x.share(1, 0, 9999));
        bounds.answers(true, "1 of 1", one, x -> x.shared(0, 1, 1) && x.shared(1, 0, 1));
        bounds.answers(false, "2 of 1", one, x -> x.shared(0, 1, 2) || x.shared(1, 0, 2));
    }

    /** All of ROT 0. */
    private static YearRope oakums(int... strengths) {
        return strengths(strengths);
    }

    private void oakum() {
        check.sentence("OAKUM: told is STRENGTH of three unlike YARNS together, and ROT together: THREES that fit (all YARNS there "
                + "are): how many; SURE: YARNS in all of them, as bits (0 without any);");
        bounds.answers(0, "two YARNS", () -> oakums(1, 2), x -> x.oakum(3, 0, 0));
        bounds.answers(1, "three", () -> oakums(1, 2, 3), x -> x.oakum(6, 0, 0));
        bounds.answers(0, "STRENGTH 1 less", () -> oakums(1, 2, 3), x -> x.oakum(5, 0, 0));
        bounds.answers(0, "STRENGTH 1 more", () -> oakums(1, 2, 3), x -> x.oakum(7, 0, 0));
        bounds.answers(0, "ROT 1 more", () -> oakums(1, 2, 3), x -> x.oakum(6, 1, 0));
        bounds.answers(0, "ROT 1 less", () -> oakums(1, 2, 3), x -> x.oakum(6, -1, 0));
        bounds.answers(7, "all three are SURE", () -> oakums(1, 2, 3), x -> x.oakum(6, 0, 1));
        bounds.answers(0, "none is without any", () -> oakums(1, 2, 3), x -> x.oakum(7, 0, 1));
        bounds.answers(120, "all of ten", Scenes::full, x -> x.oakum(90, 0, 0));
        bounds.answers(0, "all of ten are in as many", Scenes::full, x -> x.oakum(90, 0, 2));
        bounds.answers(0, "none is in all", Scenes::full, x -> x.oakum(90, 0, 1));
        Bounds.Scene rotten = () -> Check.shed("yarn 1 long 9 rot 1 reign 0;yarn 2 long 9 rot 3 reign 0;yarn 3 long 9 rot 5 reign 0");
        bounds.answers(1, "ROT 1, 3 and 5", rotten, x -> x.oakum(6, 9, 0));
        bounds.answers(0, "ROT 8", rotten, x -> x.oakum(6, 8, 0));
        bounds.answers(0, "ROT 10", rotten, x -> x.oakum(6, 10, 0));
        bounds.answers(1, "YARNS that are used up, too", Bounds.after(Scenes::three, x -> x.lay(0, 1, 2, 30)),
                x -> x.oakum(16, 3, 0));
        check.sentence("ASK: the YARN that is in as near to the half of them as can be (the greater part of them, with it or "
                + "without, is the least; of several the least; none with fewer than two).");
        bounds.answers(-1, "none of them", () -> oakums(1, 2, 3), x -> x.oakum(7, 0, 2));
        bounds.answers(-1, "one of them", () -> oakums(1, 2, 3), x -> x.oakum(6, 0, 2));
        bounds.answers(2, "two of them: 0 1 2 and 0 1 3", () -> oakums(1, 2, 3, 3), x -> x.oakum(6, 0, 2));
        bounds.answers(3, "the two SURE are SURE", () -> oakums(1, 2, 3, 3), x -> x.oakum(6, 0, 1));
        Bounds.Scene asked = Bounds.after(() -> oakums(1, 2, 3, 3), x -> x.oakum(6, 0, 2), x -> x.oakum(6, 0, 1));
        bounds.answers(3, "the two SURE, asked once more", asked, x -> x.oakum(6, 0, 1));
        bounds.answers(2, "the one to ask, asked once more", asked, x -> x.oakum(6, 0, 2));
        bounds.answers(0, "four of four: each in three", () -> oakums(2, 2, 2, 2), x -> x.oakum(6, 0, 2));
        // 1 2 3, 1 2 4, 1 3 4 and 2 3 4 fit, 0 is in none: 3 against 1 is nearer to the half than 4 against 0
        bounds.answers(1, "none of 0", () -> oakums(9, 2, 2, 2, 2), x -> x.oakum(6, 0, 2));
    }
}

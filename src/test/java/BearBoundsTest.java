/** The boundaries of what is foretold of ropes: HOLDS to SPAN, and LED. */
public final class BearBoundsTest {

    private final Check check = new Check("BearBoundsTest");
    private final Bounds bounds = new Bounds(check);

    public static void main(String[] args) {
        BearBoundsTest test = new BearBoundsTest();
        test.holds();
        test.changes();
        test.would();
        test.weakest();
        test.fewest();
        test.prices();
        test.buys();
        test.sets();
        test.lasts();
        test.trials();
        test.spans();
        test.led();
        test.check.end();
    }

    /** Yarns of LENGTH 100 that BEAR 13 together, and a rope of them. */
    private static YearRope rope(int fathoms, String more) {
        return Check.shed("yarn 5 long 100 rot 1 reign 0;yarn 8 long 100 rot 0 reign 1;yarn 3 long 100 rot 2 reign 0;"
                + "rope 0 1 2 long " + fathoms + (more.isEmpty() ? "" : ";" + more));
    }

    private static YearRope ruled(int fathoms, String law, String more) {
        YearRope x = rope(fathoms, more);
        Check.law(x, law);
        return x;
    }

    private void holds() {
        check.sentence("HOLDS: how many SEASONS (0 to 40) a ROPE stands from now on with its LOAD as it is, without GALES, without "
                + "DAMP (0: it breaks in the first one; 40, if in all);");
        int[][] longs = {{1, 0}, {2, 1}, {39, 38}, {40, 39}, {41, 40}, {42, 40}, {100, 40}};
        for (int[] one : longs) {
            bounds.answers(one[1], "LONG " + one[0], () -> rope(one[0], ""), x -> x.holds(0, false));
            bounds.answers(40, "LONG " + one[0] + ", WHIPPED", () -> rope(one[0], "whip 0"), x -> x.holds(0, false));
        }
        bounds.answers(10, "13 of 13, till WEAR is 10", () -> rope(90, "hang 0 13"), x -> x.holds(0, false));
        bounds.answers(0, "14 of 13", () -> rope(90, "hang 0 14"), x -> x.holds(0, false));
        bounds.answers(40, "10 of 13: WEAR is 39 in the last", () -> rope(90, "hang 0 10"), x -> x.holds(0, false));
        bounds.answers(30, "11 of 13, till WEAR is 30", () -> rope(90, "hang 0 11"), x -> x.holds(0, false));
        bounds.answers(40, "without GALES", () -> rope(90, "hang 0 7;gale 100"), x -> x.holds(0, false));
        bounds.answers(40, "without DAMP", () -> rope(90, "hang 0 7;damp 100"), x -> x.holds(0, false));
        bounds.answers(3, "winter comes", () -> ruled(90, "fail 1 if winter;wear 0", "hang 0 13"), x -> x.holds(0, false));
        bounds.leaves(5, "nothing stays", Scenes::busy, x -> x.holds(0, false));
    }

    private void changes() {
        check.sentence("CHANGE: behind how many of these SEASONS (0: now; 40 at most) it first BEARS less than twice its LOAD, not "
                + "being BROKEN; none.");
        bounds.answers(10, "WEAR 10: 12 is not less than 12, till WEAR is 20", () -> worn(10), x -> x.holds(0, true));
        bounds.answers(0, "13 is less than 14", () -> rope(90, "hang 0 7"), x -> x.holds(0, true));
        bounds.answers(20, "13 is not less than 12, nor is 12", () -> rope(90, "hang 0 6"), x -> x.holds(0, true));
        bounds.answers(-1, "nothing hangs", () -> rope(90, ""), x -> x.holds(0, true));
        // LONG is 21 behind 39 seasons, 20 behind 40, 19 behind 41
        bounds.answers(39, "behind 39", () -> ruled(60, "wear 0;fail 12 if long < 22", "hang 0 1"), x -> x.holds(0, true));
        bounds.answers(40, "behind 40", () -> ruled(60, "wear 0;fail 12 if long < 21", "hang 0 1"), x -> x.holds(0, true));
        bounds.answers(-1, "behind 41", () -> ruled(60, "wear 0;fail 12 if long < 20", "hang 0 1"), x -> x.holds(0, true));
        // it breaks in the season that makes it LONG 0, and BEARS nothing then
        bounds.answers(-1, "BROKEN ahead", () -> rope(3, "hang 0 6"), x -> x.holds(0, true));
        bounds.answers(2, "just ahead of that", () -> ruled(3, "wear 0;fail 9 if long < 2", "hang 0 6"), x -> x.holds(0, true));
        bounds.answers(-1, "as it breaks", () -> ruled(3, "wear 0;fail 9 if long < 1", "hang 0 6"), x -> x.holds(0, true));
        bounds.answers(3, "winter comes", () -> ruled(90, "fail 2 if winter;wear 0", "hang 0 6"), x -> x.holds(0, true));
        bounds.leaves(-1, "nothing stays", Scenes::busy, x -> x.holds(0, true));
    }

    private static YearRope worn(int seasons) {
        YearRope x = rope(90, "hang 0 6");
        x.seasons(seasons);
        return x;
    }

    private static YearRope doubled(int fathoms, int times) {
        YearRope x = rope(fathoms, "");
        for (int i = 0; i < times; i++) {
            x.twice(0);
        }
        return x;
    }

    private void would() {
        check.sentence("IF: what it would BEAR, if it was TARRED once more, DOUBLED (as it is, if it cannot be), WHIPPED.");
        bounds.answers(14, "TAR 8 would be 9", () -> ruled(9, "bear 1 if tar > 8", "tar 0 8"), x -> x.would(0, 0));
        bounds.answers(13, "TAR 9 would not be 10", () -> ruled(9, "bear 1 if tar > 9", "tar 0 9"), x -> x.would(0, 0));
        bounds.answers(14, "WEAR 5 would be 0", () -> wornBy(5, "bear 1 if worn < 1"), x -> x.would(0, 0));
        bounds.answers(13, "WEAR 6 would be 1", () -> wornBy(6, "bear 1 if worn < 1"), x -> x.would(0, 0));
        bounds.answers(13, "WEAR 14 would be 9", () -> wornBy(14, ""), x -> x.would(0, 0));
        bounds.answers(12, "WEAR 15 would be 10", () -> wornBy(15, ""), x -> x.would(0, 0));
        bounds.answers(14, "WEAR 3 would be 0", () -> wornBy(3, "bear 1 if worn < 1"), x -> x.would(0, 0));
        bounds.answers(26, "LONG 2", () -> rope(2, ""), x -> x.would(0, 1));
        bounds.answers(13, "LONG 1 cannot be", () -> rope(1, ""), x -> x.would(0, 1));
        bounds.answers(104, "4 PLIES", () -> doubled(16, 2), x -> x.would(0, 1));
        bounds.answers(104, "8 PLIES cannot be", () -> doubled(16, 3), x -> x.would(0, 1));
        bounds.answers(28, "LONG 5 would be 2", () -> ruled(5, "bear 1 if long < 3", ""), x -> x.would(0, 1));
        bounds.answers(26, "LONG 6 would be 3", () -> ruled(6, "bear 1 if long < 3", ""), x -> x.would(0, 1));
        bounds.answers(14, "WHIPPED", () -> ruled(9, "bear 1 if whipped", ""), x -> x.would(0, 2));
        bounds.answers(14, "WHIPPED already", () -> ruled(9, "bear 1 if whipped", "whip 0"), x -> x.would(0, 2));
        for (int what = 0; what < 3; what++) {
            int w = what;
            bounds.leaves(0, "a BROKEN one, what " + w, Scenes::busy, x -> x.would(1, w));
        }
    }

    private static YearRope wornBy(int wear, String law) {
        YearRope x = ruled(9, "wear " + wear, "");
        x.seasons(1);
        Check.law(x, law);
        return x;
    }

    private void weakest() {
        check.sentence("WEAKEST: the ROPE, not BROKEN, of which BEARS less LOAD is the least (of several the least; none).");
        String ropes = "rope 0 1 2 long 9;rope 0 1 2 long 9;rope 0 1 2 long 9";
        bounds.answers(0, "three alike", () -> rope(9, ropes), YearRope::weakest);
        bounds.answers(1, "12 ahead of 13", () -> rope(9, ropes + ";hang 1 1"), YearRope::weakest);
        bounds.answers(1, "of two alike the first", () -> rope(9, ropes + ";hang 2 1;hang 1 1"), YearRope::weakest);
        bounds.answers(2, "less than nothing", () -> rope(9, ropes + ";hang 1 13;hang 2 14"), YearRope::weakest);
        bounds.answers(3, "as little as can be", () -> rope(9, ropes + ";hang 2 998;hang 3 999"), YearRope::weakest);
        bounds.answers(0, "BROKEN ones do not count",
                Bounds.after(() -> rope(9, ropes + ";hang 2 998;hang 3 999"), x -> x.seasons(1)), x -> x.weakest());
        bounds.answers(-1, "none but a BROKEN one", Bounds.after(() -> rope(1, ""), x -> x.seasons(1)), x -> x.weakest());
        bounds.answers(-1, "none", Scenes::three, YearRope::weakest);
    }

    private void fewest() {
        check.sentence("FEWEST: the fewest ROPES, not BROKEN, that BEAR together as much at least as all LOADS that hang: of several "
                + "the least as bits; none.");
        String ropes = "rope 0 1 2 long 9;rope 0 1 2 long 9";
        bounds.answers(0, "no LOADS: none of the ROPES", () -> rope(9, ropes), YearRope::fewest);
        bounds.answers(0, "no ROPES", Scenes::three, YearRope::fewest);
        bounds.answers(1, "1", () -> rope(9, ropes + ";hang 2 1"), YearRope::fewest);
        bounds.answers(1, "13 by one", () -> rope(9, ropes + ";hang 2 13"), YearRope::fewest);
        bounds.answers(3, "14 by two", () -> rope(9, ropes + ";hang 2 14"), YearRope::fewest);
        bounds.answers(3, "26 by two", () -> rope(9, ropes + ";hang 2 13;hang 0 13"), YearRope::fewest);
        bounds.answers(7, "27 by three", () -> rope(9, ropes + ";hang 2 14;hang 0 13"), YearRope::fewest);
        bounds.answers(7, "39 by three", () -> rope(9, ropes + ";hang 2 39"), YearRope::fewest);
        bounds.answers(-1, "40 by none", () -> rope(9, ropes + ";hang 2 40"), YearRope::fewest);
        bounds.answers(6, "a BROKEN one does not count",
                Bounds.after(() -> rope(1, ropes + ";hang 2 13;hang 1 12"), x -> x.seasons(1), x -> x.hang(2, 14)), x -> x.fewest());
        bounds.answers(4, "one ahead of two of less bits", Bounds.after(() -> rope(9, ropes), x -> x.hang(0, 20), x -> x.twice(2)),
                YearRope::fewest);
        bounds.answers(255, "720 by all eight", () -> fullHung(90), YearRope::fewest);
        bounds.answers(-1, "721 by none", () -> fullHung(91), YearRope::fewest);
        bounds.answers(-1, "1 by a rope that BEARS nothing", () -> ruled(9, "fail 99", "hang 0 1"), YearRope::fewest);
    }

    /** Eight ropes that BEAR 90 each, with 90 on all of them but the last. */
    private static YearRope fullHung(int last) {
        YearRope x = Scenes.full();
        for (int rope = 0; rope < 8; rope++) {
            x.hang(rope, rope == 7 ? last : 90);
        }
        return x;
    }

    /** The price of a rope of such yarns, of REIGN 1 each, so LONG. */
    private static int price(int strength, int rot, int fathoms) {
        return Check.shed(Scenes.lines("yarn " + strength + " long 200 rot " + rot + " reign 1", 3) + ";rope 0 1 2 long " + fathoms)
                .rope(0, 12);
    }

    private void prices() {
        check.sentence("PRICE of a YARN: STRENGTH times 3 less ROT times 2 (0 at least), and REIGN; of a ROPE: of its YARNS "
                + "together, times LONG, by 10, rounded down; 0, if it is BROKEN. BUYS");
        int[][] yarns = {{3, 4, 5, 6}, {3, 5, 5, 5}, {2, 3, 5, 5}, {2, 2, 5, 7}, {1, 9, 0, 0}, {1, 9, 5, 5}, {30, 0, 5, 95}};
        for (int[] yarn : yarns) {
            bounds.answers(yarn[3], "STRENGTH " + yarn[0] + ", ROT " + yarn[1] + ", REIGN " + yarn[2],
                    () -> Check.shed("yarn " + yarn[0] + " long 9 rot " + yarn[1] + " reign " + yarn[2]), x -> x.yarn(0, 4));
        }
        // three times 1 and 3 less 2: 6 together
        bounds.answers(0, "6 times 1", Scenes::empty, x -> price(1, 1, 1));
        bounds.answers(1, "6 times 2: 12", Scenes::empty, x -> price(1, 1, 2));
        bounds.answers(1, "6 times 3: 18", Scenes::empty, x -> price(1, 1, 3));
        bounds.answers(3, "6 times 5: 30", Scenes::empty, x -> price(1, 1, 5));
        bounds.answers(5460, "as much as can be but for REIGN", Scenes::empty, x -> price(30, 0, 200));
        bounds.answers(0, "a BROKEN one", Scenes::busy, x -> x.rope(1, 12));
    }

    private void buys() {
        check.sentence("BUYS: with COINS 0 to 9999 the set of ROPES with the greatest BEARS together whose PRICES together are these "
                + "at most: of several the least as bits.");
        // PRICES are 13 and 25 and 5 together, 43, times LONG by 10: 43 and 43 and 86
        String ropes = "rope 0 1 2 long 10;rope 0 1 2 long 20";
        int[][] coins = {{0, 0}, {42, 0}, {43, 1}, {85, 1}, {86, 3}, {171, 3}, {172, 7}, {9999, 7}};
        for (int[] row : coins) {
            bounds.answers(row[1], row[0] + " COINS", () -> rope(10, ropes), x -> x.buys(row[0]));
        }
        bounds.answers(0, "no ROPES", Scenes::three, x -> x.buys(9999));
        bounds.answers(0, "none BEARS", () -> ruled(10, "fail 99", ropes), x -> x.buys(9999));
        // each of the eight costs 285 times 4 by 10
        bounds.answers(255, "all eight", Scenes::full, x -> x.buys(8 * 114));
        bounds.answers(127, "seven of eight", Scenes::full, x -> x.buys(8 * 114 - 1));
        bounds.answers(6, "a BROKEN one is not bought", Bounds.after(() -> rope(1, ropes), x -> x.seasons(1)), x -> x.buys(9999));
        bounds.answers(1, "without COINS what costs nothing", () -> Check.shed("yarn 1 long 9 rot 0 reign 0;yarn 1 long 9 rot 0 "
                + "reign 0;yarn 1 long 9 rot 0 reign 0;rope 0 1 2 long 1;rope 0 1 2 long 2"), x -> x.buys(0));
    }

    private void sets() {
        check.sentence("SAME: other ROPES of the same three YARNS, as bits. USES of a YARN: ROPES it is in, as bits.");
        Bounds.Scene four = () -> rope(1, "yarn 9 long 9 rot 0 reign 0;rope 2 0 1 long 2;rope 0 1 3 long 2;rope 1 2 0 long 9");
        int[] same = {2 | 8, 1 | 8, 0, 1 | 2};
        int[] uses = {15, 15, 1 | 2 | 8, 4};
        for (int i = 0; i < 4; i++) {
            int n = i;
            bounds.answers(same[n], "SAME of rope " + n, four, x -> x.rope(n, 13));
            bounds.answers(same[n], "SAME of rope " + n + ", the first BROKEN", Bounds.after(four, x -> x.seasons(1)),
                    x -> x.rope(n, 13));
            bounds.answers(uses[n], "USES of yarn " + n, four, x -> x.yarn(n, 5));
            bounds.answers(uses[n], "USES of yarn " + n + ", the first BROKEN", Bounds.after(four, x -> x.seasons(1)),
                    x -> x.yarn(n, 5));
        }
        bounds.answers(8, "SAME of the last of eight", Scenes::full, x -> x.rope(7, 13));
        bounds.answers(0, "SAME, two YARNS of three", () -> rope(9, "yarn 9 long 9 rot 0 reign 0;rope 0 1 3 long 9"),
                x -> x.rope(0, 13));
        check.sentence("SKIPS: ROPES not BROKEN, without a LOAD, LONG 2 to 5, as bits. UNWHIPPED ones, as bits.");
        for (int fathoms = 1; fathoms <= 7; fathoms++) {
            int f = fathoms;
            bounds.answers(f >= 2 && f <= 5 ? 1 : 0, "LONG " + f, () -> rope(f, ""), YearRope::skips);
        }
        bounds.answers(0, "1 hangs", () -> rope(3, "hang 0 1"), YearRope::skips);
        bounds.answers(0, "BROKEN", Bounds.after(() -> rope(3, "hang 0 14"), x -> x.seasons(1)), x -> x.skips());
        bounds.answers(255, "all eight", Scenes::full, YearRope::skips);
        bounds.answers(0, "no ROPES", Scenes::three, YearRope::skips);
        bounds.answers(255, "all eight UNWHIPPED", Scenes::full, YearRope::loose);
        bounds.answers(0, "WHIPPED", () -> rope(3, "whip 0"), YearRope::loose);
        bounds.answers(0, "no UNWHIPPED ROPES", Scenes::three, YearRope::loose);
    }

    private void lasts() {
        check.sentence("LASTS for a LENGTH (1 to 200): how many ROPES of so many FATHOMS can be LAID at most from all YARNS in the "
                + "shed, each of three unlike ones.");
        int[][] threes = {{30, 1}, {31, 0}, {15, 2}, {16, 1}, {1, 30}, {200, 0}};
        for (int[] row : threes) {
            bounds.answers(row[1], "40, 30 and 50 by " + row[0], Scenes::three, x -> x.lasts(row[0]));
        }
        bounds.answers(1, "200 by 200", () -> Check.shed(Scenes.lines("yarn 1 long 200 rot 0 reign 0", 3)), x -> x.lasts(200));
        bounds.answers(0, "two YARNS", () -> Check.shed(Scenes.lines("yarn 1 long 200 rot 0 reign 0", 2)), x -> x.lasts(1));
        bounds.answers(0, "no YARNS", Scenes::empty, x -> x.lasts(1));
        bounds.answers(3, "4, 4, 2 and 1 pieces", () -> Check.shed(
                "yarn 1 long 8 rot 0 reign 0;yarn 1 long 8 rot 0 reign 0;yarn 1 long 4 rot 0 reign 0;yarn 1 long 2 rot 0 reign 0"),
                x -> x.lasts(2));
        bounds.answers(634, "the eight ROPES that there are do not hold it down", Scenes::full, x -> x.lasts(1));
    }

    private void trials() {
        check.sentence("TRIAL of N SEASONS (0 to 40) from now (draws, too; nothing stays): ROPES that are BROKEN then, as bits; LOADS "
                + "that fell in it together.");
        Bounds.Scene two = () -> rope(40, "rope 0 1 2 long 41;hang 0 1;hang 1 2");
        bounds.leaves(0, "none", two, x -> x.trial(0, false));
        bounds.leaves(0, "39", two, x -> x.trial(39, false));
        bounds.leaves(1, "40", two, x -> x.trial(40, false));
        bounds.leaves(1, "LOADS in 40", two, x -> x.trial(40, true));
        bounds.leaves(0, "LOADS in 39", two, x -> x.trial(39, true));
        bounds.leaves(2, "those that are BROKEN now", Scenes::busy, x -> x.trial(0, false));
        bounds.leaves(0, "but their LOADS fell ahead", Scenes::busy, x -> x.trial(0, true));
        // from SEED 1 each season draws for the gale and three yarns: the ninth draw, 12, is the first below 13
        Bounds.Scene windy = () -> rope(40, "gale 13;hang 0 7");
        bounds.leaves(0, "two SEASONS without a GALE", windy, x -> x.trial(2, false));
        bounds.leaves(1, "the third has one", windy, x -> x.trial(3, false));
        bounds.answers(1, "from the SEED of now", Bounds.after(windy, x -> x.seasons(2)), x -> x.trial(1, false));
    }

    private void spans() {
        check.sentence("SPAN: the fewest and the most that are BROKEN from SEED 1, 2, .. 6.");
        // the least of the draws modulo 100 from SEED 1 to 6, and from 0 and 7, which do not count:
        // in 1 season 38, 8, 47, 17, 55, 26, and 0, 64; in 7 seasons 10, 8, 7, 7, 4, 15, and 0, 6;
        // in 13 seasons 10, 2, 7, 7, 4, 6, and 0, 6
        int[][] galesAndSeasons = {{8, 1, 0, 0}, {9, 1, 0, 1}, {55, 1, 0, 1}, {56, 1, 1, 1}, {4, 7, 0, 0}, {5, 7, 0, 1},
            {15, 7, 0, 1}, {16, 7, 1, 1}, {2, 13, 0, 0}, {3, 13, 0, 1}, {10, 13, 0, 1}, {11, 13, 1, 1}};
        for (int[] row : galesAndSeasons) {
            Bounds.Scene windy = () -> rope(100, "whip 0;hang 0 7;gale " + row[0]);
            bounds.leaves(row[2], "the fewest, GALE " + row[0] + ", " + row[1], windy, x -> x.span(row[1], false));
            bounds.leaves(row[3], "the most, GALE " + row[0] + ", " + row[1], windy, x -> x.span(row[1], true));
        }
        bounds.leaves(1, "none: those that are BROKEN now", Scenes::busy, x -> x.span(0, false));
        bounds.leaves(1, "none: those that are BROKEN now", Scenes::busy, x -> x.span(0, true));
        bounds.leaves(0, "no ROPES", Scenes::three, x -> x.span(40, true));
        bounds.leaves(8, "all eight", Scenes::full, x -> x.span(4, false));
        bounds.leaves(0, "none of eight", Scenes::full, x -> x.span(3, true));
    }

    private void led() {
        check.sentence("LED: how many rows of THE LOG a YARN is in; LOADS that fell by them together.");
        int[] rows = {1, 1, 1, 0};
        for (int yarn = 0; yarn < 4; yarn++) {
            int y = yarn;
            bounds.leaves(rows[y], "rows of yarn " + y, Scenes::busy, x -> x.led(y, false));
            bounds.leaves(999 * rows[y], "LOADS of yarn " + y, Scenes::busy, x -> x.led(y, true));
        }
        bounds.leaves(0, "no rows", Scenes::three, x -> x.led(2, false));
        bounds.leaves(0, "no LOADS", Scenes::three, x -> x.led(2, true));
    }
}

/** Promises 19 (seasons), 39 (led), 40 (log), 41 (seed). */
public final class SeasonTest {

    /** What the draws answer from SEED 1, modulo 100: 38, 58, 13, 15, 51, 27, 10, 19, 12, 86. */
    private static final String YARNS = "yarn 5 long 200 rot 1 reign 0;yarn 8 long 200 rot 0 reign 1;"
            + "yarn 3 long 200 rot 2 reign 0;yarn 9 long 0 rot 0 reign 0";

    public static void main(String[] args) {
        Check check = new Check("SeasonTest");
        ropesFray(check);
        ropesBreak(check);
        gales(check);
        damp(check);
        seeds(check);
        bounds(check);
        manyRows(check);
        lastSeason(check);
        check.end();
    }

    private static void ropesFray(Check check) {
        YearRope x = Check.shed(YARNS + ";rope 0 1 2 long 3;rope 0 1 2 long 3;whip 1");
        check.due("a season", 0, () -> x.seasons(1));
        check.due("unwhipped is shorter", 2, () -> x.rope(0, 3));
        check.due("whipped is not", 3, () -> x.rope(1, 3));
        check.due("wear", 1, () -> x.rope(0, 5));
        check.due("wear of the whipped", 1, () -> x.rope(1, 5));
        check.due("it unravels", 1, () -> x.seasons(2));
        check.due("long 0", 0, () -> x.rope(0, 3));
        check.due("broken", 1, () -> x.rope(0, 8));
        check.due("wear of that season too", 3, () -> x.rope(0, 5));
        check.due("season", 3, () -> x.count(5));
        check.due("season of the row", 2, () -> x.log(0, 0));
        check.due("no load fell", 0, () -> x.log(0, 4));
        check.due("once is enough", 0, () -> x.seasons(5));
        check.due("broken ones wear no more", 3, () -> x.rope(0, 5));
        check.due("broke in all", 1, () -> x.count(10));
        Check.walk(x, "rope 2 1 0 long 1;hang 2 4");
        check.due("it unravels with its load", 1, () -> x.seasons(1));
        check.due("which falls", 4, () -> x.log(0, 4));
        check.due("and hangs no more", 0, () -> x.rope(2, 9));
        check.due("in all", 4, () -> x.count(9));
    }

    private static void ropesBreak(Check check) {
        // each BEARS 13
        YearRope x = Check.shed(YARNS + ";rope 2 1 0 long 9;rope 0 1 2 long 9;hang 0 13;hang 1 14;whip 0");
        check.due("14 is too much", 1, () -> x.seasons(1));
        check.due("the second", 2, () -> x.count(12));
        check.due("its long stays", 9, () -> x.rope(1, 3));
        check.due("its wear too", 0, () -> x.rope(1, 5));
        check.due("the first hangs on", 13, () -> x.count(8));
        check.due("till wear is 10", 0, () -> x.seasons(9));
        check.due("then it breaks", 1, () -> x.seasons(1));
        int[][] rows = {{10, 2, 1, 0, 13}, {0, 0, 1, 2, 14}};
        for (int ago = 0; ago < 2; ago++) {
            for (int what = 0; what < 5; what++) {
                int a = ago;
                int w = what;
                check.due("row " + a + " what " + w, rows[a][w], () -> x.log(a, w));
            }
        }
        check.due("no third row", -1, () -> x.log(2, 0));
        check.due("no row ahead", -1, () -> x.log(-1, 4));
        check.due("no such row", -1, () -> x.log(Integer.MAX_VALUE, 4));
        check.noElement("what 5", () -> x.log(0, 5));
        check.noElement("what -1", () -> x.log(0, -1));
        check.noElement("what 5 of no row", () -> x.log(9, 5));
        check.due("rows", 2, () -> x.count(13));
        check.due("fell in all", 27, () -> x.count(9));
        check.due("led rows", 2, () -> x.led(0, false));
        check.due("led loads", 27, () -> x.led(2, true));
        check.due("led nowhere", 0, () -> x.led(3, false));
        check.due("led nothing", 0, () -> x.led(3, true));
        check.noIndex("led of no yarn", () -> x.led(4, false));
        check.noIndex("led of yarn -1", () -> x.led(-1, true));
        x.pick(0);
        x.pick(0);
        check.due("the log stays when ropes go", 27, () -> x.led(1, true));
    }

    private static void gales(Check check) {
        // a gale only in season 0, whose draw is 38; no yarn but the three draws damp
        YearRope x = Check.shed(YARNS + ";rope 0 1 2 long 9;hang 0 7;gale 39");
        check.due("twice 7 is too much in a gale", 1, () -> x.seasons(1));
        check.due("7 fell", 7, () -> x.count(9));
        YearRope y = Check.shed(YARNS + ";rope 0 1 2 long 9;hang 0 7;gale 38");
        check.due("38 is not below 38", 0, () -> y.seasons(1));
        check.due("the next draw of a gale is the fifth: 51", 0, () -> y.seasons(1));
        check.due("the ninth: 12", 1, () -> y.seasons(1));
        check.due("in season 2", 2, () -> y.log(0, 0));
        YearRope z = Check.shed(YARNS + ";rope 0 1 2 long 9;hang 0 6;gale 100");
        check.due("twice 6 is borne", 0, () -> z.seasons(8));
        YearRope w = Check.shed(YARNS + ";rope 0 1 2 long 9;gale 100");
        Check.law(w, "fail 99");
        check.due("nothing hangs, nothing breaks", 0, () -> w.seasons(8));
        check.due("but it unravels", 1, () -> w.seasons(1));
    }

    private static void damp(Check check) {
        YearRope x = Check.shed(YARNS + ";damp 16");
        x.seasons(1);
        int[] rots = {1, 1, 3, 0};
        for (int i = 0; i < 4; i++) {
            int yarn = i;
            check.due("rot of " + i + " by 58, 13, 15 and no draw", rots[i], () -> x.yarn(yarn, 2));
        }
        x.seasons(1);
        int[] then = {1, 2, 3, 0};
        for (int i = 0; i < 4; i++) {
            int yarn = i;
            check.due("rot of " + i + " by 27, 10, 19", then[i], () -> x.yarn(yarn, 2));
        }
        Check.walk(x, "damp 100");
        x.seasons(20);
        check.due("9 at most", 9, () -> x.yarn(0, 2));
        check.due("what is not in the shed does not rot", 0, () -> x.yarn(3, 2));
        // the ropes of a season are looked at ahead of its damp
        YearRope y = Check.shed(YARNS + ";rope 0 1 2 long 9;hang 0 13;damp 100");
        check.due("the first season", 0, () -> y.seasons(1));
        check.due("the second", 1, () -> y.seasons(1));
    }

    private static void seeds(Check check) {
        YearRope x = Check.shed(YARNS);
        check.due("1 at first", 1, () -> x.seed(1));
        x.seasons(1);
        int seed = 1;
        for (int i = 0; i < 4; i++) {
            seed = 1103515245 * seed + 12345;
        }
        check.due("four draws later", seed, () -> x.seed(-5));
        check.due("as told", -5, () -> x.seed(Integer.MIN_VALUE));
        check.due("no act", 1, () -> x.count(14));
        check.due("the least int", Integer.MIN_VALUE, () -> x.seed(0));
    }

    private static void bounds(Check check) {
        YearRope x = Check.shed(YARNS);
        check.noArgument("0 seasons", () -> x.seasons(0));
        check.noArgument("51 seasons", () -> x.seasons(51));
        check.noArgument("-1 seasons", () -> x.seasons(-1));
        check.due("50 seasons", 0, () -> x.seasons(50));
        check.due("are one act", 1, () -> x.count(14));
        check.due("season", 50, () -> x.count(5));
    }

    /** 64 ropes break, four of them beyond what the log keeps. */
    private static void manyRows(Check check) {
        YearRope x = Check.shed(YARNS + ";yarn 1 long 9 rot 0 reign 0");
        for (int round = 0; round < 16; round++) {
            for (int i = 0; i < 4; i++) {
                x.lay(round == 0 ? 4 : 0, 1, 2, 1);
                x.hang(i, 100 + round);
            }
            x.seasons(1);
            for (int i = 0; i < 4; i++) {
                x.pick(0);
            }
        }
        check.due("rows", 60, () -> x.count(13));
        check.due("broke in all", 64, () -> x.count(10));
        check.due("fell in all", 4 * (1600 + 120), () -> x.count(9));
        check.due("the oldest row kept", 101, () -> x.log(59, 4));
        check.due("no older one", -1, () -> x.log(60, 4));
        check.due("the latest", 115, () -> x.log(0, 4));
        check.due("its season", 15, () -> x.log(3, 0));
        check.due("the season ahead", 14, () -> x.log(4, 0));
        check.due("yarn 4 is led no more", 0, () -> x.led(4, false));
        check.due("yarn 0 is led by 60", 60, () -> x.led(0, false));
        check.due("and by loads", 4 * (1500 + 120), () -> x.led(0, true));
    }

    private static void lastSeason(Check check) {
        YearRope x = Check.shed(YARNS + ";rope 0 1 2 long 9;whip 0");
        Check.law(x, "wear 1 if winter");
        for (int i = 0; i < 199; i++) {
            x.seasons(50);
        }
        x.seasons(48);
        check.due("season 9998", 9998, () -> x.count(5));
        check.due("no winter", 0, () -> x.rope(0, 11));
        x.seasons(1);
        check.due("season 9999", 9999, () -> x.count(5));
        check.due("winter", 1, () -> x.rope(0, 11));
        x.seasons(2);
        check.due("9999 at most", 9999, () -> x.count(5));
        check.due("winter still", 1, () -> x.rope(0, 11));
    }
}

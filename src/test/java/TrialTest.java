/** Promises 37 (trial), 38 (span). */
public final class TrialTest {

    /** The draws modulo 100 from SEED 1: 38, 58, 13, 15, 51, 27, 10, 19, 12. */
    private static final String YARNS = "yarn 5 long 50 rot 1 reign 0;yarn 8 long 50 rot 0 reign 1;"
            + "yarn 3 long 50 rot 2 reign 0";

    public static void main(String[] args) {
        Check check = new Check("TrialTest");
        trials(check);
        spans(check);
        bounds(check);
        check.end();
    }

    private static void trials(Check check) {
        YearRope x = Check.shed(YARNS + ";rope 0 1 2 long 9;rope 0 1 2 long 2;rope 0 1 2 long 1;hang 0 7;hang 1 3;hang 2 2;gale 38");
        x.seasons(1);
        check.due("the third is broken", 4, () -> x.count(12));
        check.due("trial of none: those that are", 4, () -> x.trial(0, false));
        check.due("nothing fell in it", 0, () -> x.trial(0, true));
        check.due("one season: 51 is no gale", 6, () -> x.trial(1, false));
        check.due("3 fell", 3, () -> x.trial(1, true));
        check.due("two seasons: 12 is one", 7, () -> x.trial(2, false));
        check.due("10 fell", 10, () -> x.trial(2, true));
        check.due("the same again: nothing stays", 10, () -> x.trial(40, true));
        check.due("season", 1, () -> x.count(5));
        check.due("fell in all", 2, () -> x.count(9));
        check.due("log", 1, () -> x.count(13));
        check.due("acts", 1, () -> x.count(14));
        check.due("what trial told comes so", 2, () -> x.seasons(2));
        check.due("all are broken", 7, () -> x.count(12));
    }

    private static void spans(Check check) {
        YearRope x = Check.shed(YARNS + ";rope 0 1 2 long 9;rope 0 1 2 long 9;hang 0 7;gale 50;rope 0 1 2 long 1");
        x.seed(77);
        int least = 9;
        int most = 0;
        for (int seed = 1; seed <= 6; seed++) {
            boolean gale = (1103515245 * seed + 12345 >>> 16 & 0x7FFF) % 100 < 50;
            least = Math.min(least, gale ? 2 : 1);
            most = Math.max(most, gale ? 2 : 1);
        }
        int few = least;
        int many = most;
        check.due("the seeds are unlike", true, () -> few < many);
        check.due("the fewest in one season", few, () -> x.span(1, false));
        check.due("the most in one season", many, () -> x.span(1, true));
        check.due("none in none", 0, () -> x.span(0, true));
        check.due("all unravel", 3, () -> x.span(9, false));
        check.due("the seed stays", 77, () -> x.seed(77));
        x.seasons(1);
        eachSeed(check);
        check.due("those broken ahead count", Integer.bitCount(x.count(12)), () -> x.span(0, false));
    }

    /** A whipped rope that only a gale breaks, and no yarn in the shed: each season is one draw. */
    private static void eachSeed(Check check) {
        for (int gale = 1; gale < 100; gale += 2) {
            YearRope x = Check.shed("yarn 5 long 9 rot 1 reign 0;yarn 8 long 9 rot 0 reign 1;yarn 3 long 9 rot 2 reign 0;"
                    + "rope 0 1 2 long 9;whip 0;hang 0 7;gale " + gale);
            for (int n = 1; n <= 3; n++) {
                int seasons = n;
                int breaks = 0;
                for (int first = 1; first <= 6; first++) {
                    boolean blows = false;
                    int seed = first;
                    for (int i = 0; i < n; i++) {
                        seed = 1103515245 * seed + 12345;
                        blows |= (seed >>> 16 & 0x7FFF) % 100 < gale;
                    }
                    breaks += blows ? 1 : 0;
                }
                check.due("gale " + gale + ", the fewest in " + n, breaks == 6 ? 1 : 0, () -> x.span(seasons, false));
                check.due("gale " + gale + ", the most in " + n, breaks == 0 ? 0 : 1, () -> x.span(seasons, true));
            }
        }
    }

    private static void bounds(Check check) {
        YearRope x = Check.shed(YARNS);
        check.noArgument("trial -1", () -> x.trial(-1, false));
        check.noArgument("trial 41", () -> x.trial(41, true));
        check.noArgument("span -1", () -> x.span(-1, false));
        check.noArgument("span 41", () -> x.span(41, true));
        check.due("trial 40", 0, () -> x.trial(40, false));
        check.due("span 40", 0, () -> x.span(40, false));
    }
}

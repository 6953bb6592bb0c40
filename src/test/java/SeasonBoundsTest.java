import java.math.BigInteger;

/** The boundaries of a SEASON, of a DRAW and of SEED. */
public final class SeasonBoundsTest {

    private static final int[] SEEDS = {1, 2, 0, -1, 7, 12345, 1 << 15, 1 << 16, 1 << 30, Integer.MAX_VALUE, Integer.MIN_VALUE,
        -1103515245};

    private final Check check = new Check("SeasonBoundsTest");
    private final Bounds bounds = new Bounds(check);

    public static void main(String[] args) {
        SeasonBoundsTest test = new SeasonBoundsTest();
        test.gales();
        test.loads();
        test.wear();
        test.unravelling();
        test.damp();
        test.lastSeason();
        test.draws();
        test.check.end();
    }

    /** The document's formula by numbers that do not go round, taken back into an int. */
    private static int nextSeed(int seed) {
        BigInteger next = BigInteger.valueOf(1103515245).multiply(BigInteger.valueOf(seed)).add(BigInteger.valueOf(12345));
        return next.intValue();
    }

    private static int drawModulo100(int seed) {
        return (int) ((nextSeed(seed) & 0xFFFFFFFFL) / 65536 % 32768 % 100);
    }

    /** A whipped rope that BEARS 13, and no FATHOMS in the shed: each season is one draw, the gale's. */
    private static YearRope bare(String more) {
        YearRope x = Check.shed("yarn 5 long 9 rot 1 reign 0;yarn 8 long 9 rot 0 reign 1;yarn 3 long 9 rot 2 reign 0;"
                + "rope 0 1 2 long 9;whip 0" + (more.isEmpty() ? "" : ";" + more));
        Check.law(x, "wear 0");
        return x;
    }

    private static YearRope seeded(int seed, String more) {
        YearRope x = bare(more);
        x.seed(seed);
        return x;
    }

    private void gales() {
        check.sentence("A SEASON more: a GALE, if DRAW modulo 100 is below GALE.");
        for (int seed : SEEDS) {
            int draw = drawModulo100(seed);
            bounds.answers(0, "SEED " + seed + ", GALE as the DRAW", () -> seeded(seed, "hang 0 7;gale " + draw),
                    x -> x.seasons(1));
            bounds.answers(1, "SEED " + seed + ", GALE 1 more", () -> seeded(seed, "hang 0 7;gale " + (draw + 1)),
                    x -> x.seasons(1));
        }
        check.sentence("Each ROPE that is not BROKEN, by numbers: if a LOAD hangs on it: LOAD (twice in a GALE) above BEARS: "
                + "it is BROKEN, the LOAD falls (0 then);");
        bounds.answers(0, "13 of 13", () -> bare("hang 0 13"), x -> x.seasons(1));
        bounds.answers(1, "14 of 13", () -> bare("hang 0 14"), x -> x.seasons(1));
        bounds.answers(0, "twice 6 of 13", () -> bare("gale 100;hang 0 6"), x -> x.seasons(1));
        bounds.answers(1, "twice 7 of 13", () -> bare("gale 100;hang 0 7"), x -> x.seasons(1));
        bounds.answers(0, "twice 7 of 14", () -> ruled("bear 1;wear 0", "gale 100;hang 0 7"), x -> x.seasons(1));
        bounds.answers(0, "nothing of nothing", () -> ruled("fail 99", "gale 100"), x -> x.seasons(1));
        bounds.answers(1, "1 of nothing", () -> ruled("fail 99", "hang 0 1"), x -> x.seasons(1));
    }

    private static YearRope ruled(String law, String more) {
        YearRope x = bare(more);
        Check.law(x, law);
        return x;
    }

    private void loads() {
        YearRope x = Check.shed(Scenes.THREE + ";rope 0 1 2 long 9;rope 2 1 0 long 9;rope 1 0 2 long 9;hang 0 14;hang 2 999");
        check.due("two break", 2, () -> x.seasons(1));
        int[][] dues = {{8, 1}, {9, 0}, {3, 9}, {5, 0}};
        for (int[] due : dues) {
            check.due("the first one's what " + due[0], due[1], () -> x.rope(0, due[0]));
        }
        check.due("by numbers: the latest row is the last one's", 999, () -> x.log(0, 4));
        check.due("the row ahead is the first one's", 14, () -> x.log(1, 4));
        check.due("no third row", -1, () -> x.log(2, 4));
        check.due("LOADS that hang", 0, () -> x.count(8));
        check.due("LOADS that fell", 1013, () -> x.count(9));
        check.due("what is BROKEN does not break again", 0, () -> x.seasons(1));
        check.due("nor fall", 1013, () -> x.count(9));
        check.due("nor WEAR", 0, () -> x.rope(0, 5));
        check.due("nor is it shorter", 9, () -> x.rope(0, 3));
    }

    private void wear() {
        check.sentence("else (also without a LOAD) WEAR is more by what it WEARS by (99 at most);");
        bounds.answers(5, "without a LOAD", Bounds.after(() -> ruled("wear 5", ""), x -> x.seasons(1)), x -> x.rope(0, 5));
        bounds.answers(5, "with a LOAD", Bounds.after(() -> ruled("wear 5", "hang 0 13"), x -> x.seasons(1)), x -> x.rope(0, 5));
        bounds.answers(0, "by nothing", Bounds.after(() -> ruled("wear 0", ""), x -> x.seasons(9)), x -> x.rope(0, 5));
        bounds.answers(98, "49 and 49", Bounds.after(() -> ruled("wear 49", ""), x -> x.seasons(2)), x -> x.rope(0, 5));
        bounds.answers(99, "33 and 33 and 33", Bounds.after(() -> ruled("wear 33", ""), x -> x.seasons(3)), x -> x.rope(0, 5));
        bounds.answers(99, "50 and 50", Bounds.after(() -> ruled("wear 50", ""), x -> x.seasons(2)), x -> x.rope(0, 5));
        bounds.answers(99, "99 and 1", Bounds.after(() -> ruled("wear 99 if worn < 1;wear 1", ""), x -> x.seasons(2)),
                x -> x.rope(0, 5));
        bounds.answers(99, "as much as can be", Bounds.after(() -> ruled(Scenes.lines("wear 99", 12), ""), x -> x.seasons(2)),
                x -> x.rope(0, 5));
    }

    private void unravelling() {
        check.sentence("if it is not WHIPPED, and not BROKEN by that: LONG is 1 less; at 0: it is BROKEN, its LOAD falls.");
        Bounds.Scene two = () -> Check.shed(Scenes.THREE + ";rope 0 1 2 long 2;hang 0 3");
        bounds.answers(0, "LONG 2 does not break", two, x -> x.seasons(1));
        bounds.answers(1, "LONG 2 is 1 then", Bounds.after(two, x -> x.seasons(1)), x -> x.rope(0, 3));
        bounds.answers(1, "LONG 1 breaks", Bounds.after(two, x -> x.seasons(1)), x -> x.seasons(1));
        bounds.answers(0, "LONG 1 is 0 then", Bounds.after(two, x -> x.seasons(2)), x -> x.rope(0, 3));
        bounds.answers(2, "WEAR of its last season too", Bounds.after(two, x -> x.seasons(2)), x -> x.rope(0, 5));
        bounds.answers(3, "its LOAD falls", Bounds.after(two, x -> x.seasons(2)), x -> x.count(9));
        bounds.answers(0, "and hangs no more", Bounds.after(two, x -> x.seasons(2)), x -> x.rope(0, 9));
        bounds.answers(1, "it breaks once", two, x -> x.seasons(9));
        bounds.answers(2, "WHIPPED, LONG stays", Bounds.after(two, x -> x.whip(0), x -> x.seasons(9)), x -> x.rope(0, 3));
        bounds.answers(2, "BROKEN by its LOAD, LONG stays", Bounds.after(two, x -> x.hang(0, 14), x -> x.seasons(9)),
                x -> x.rope(0, 3));
    }

    /** Three yarns, the second with so much LENGTH; ahead of their draws, 58, 13 and 15, comes the gale's. */
    private static YearRope damped(int length, int damp) {
        return Check.shed("yarn 5 long 1 rot 0 reign 0;yarn 5 long " + length + " rot 8 reign 0;yarn 5 long 1 rot 0 reign 0;damp "
                + damp);
    }

    private void damp() {
        check.sentence("Each YARN with LENGTH above 0, by numbers: DRAW modulo 100 below DAMP: ROT is 1 more (9 at most).");
        int[][] rots = {{13, 0, 8, 0}, {14, 0, 9, 0}, {15, 0, 9, 0}, {16, 0, 9, 1}, {58, 0, 9, 1}, {59, 1, 9, 1}};
        for (int[] rot : rots) {
            for (int yarn = 0; yarn < 3; yarn++) {
                int y = yarn;
                bounds.answers(rot[y + 1], "DAMP " + rot[0] + ", yarn " + y,
                        Bounds.after(() -> damped(1, rot[0]), x -> x.seasons(1)), x -> x.yarn(y, 2));
            }
        }
        bounds.answers(8, "LENGTH 0: no ROT", Bounds.after(() -> damped(0, 100), x -> x.seasons(1)), x -> x.yarn(1, 2));
        bounds.answers(1, "LENGTH 0: no DRAW, so 13 is the third one's", Bounds.after(() -> damped(0, 14), x -> x.seasons(1)),
                x -> x.yarn(2, 2));
        bounds.answers(0, "LENGTH 0: no DRAW, so 13 is the third one's", Bounds.after(() -> damped(0, 13), x -> x.seasons(1)),
                x -> x.yarn(2, 2));
        bounds.answers(9, "ROT 8 and 1", Bounds.after(() -> damped(1, 100), x -> x.seasons(1)), x -> x.yarn(1, 2));
        bounds.answers(9, "ROT 9 at most", Bounds.after(() -> damped(1, 100), x -> x.seasons(2)), x -> x.yarn(1, 2));
        bounds.answers(2, "the others go on", Bounds.after(() -> damped(1, 100), x -> x.seasons(2)), x -> x.yarn(2, 2));
        bounds.answers(afterDraws(8), "ROT 9 draws all the same", Bounds.after(() -> damped(1, 100), x -> x.seasons(2)),
                x -> x.seed(0));
    }

    private static int afterDraws(int count) {
        int seed = 1;
        for (int i = 0; i < count; i++) {
            seed = nextSeed(seed);
        }
        return seed;
    }

    private void lastSeason() {
        check.sentence("SEASON is 1 more (9999 at most).");
        YearRope x = Scenes.empty();
        for (int i = 0; i < 199; i++) {
            x.seasons(50);
        }
        x.seasons(48);
        check.due("SEASON", 9998, () -> x.count(5));
        x.seasons(1);
        check.due("SEASON", 9999, () -> x.count(5));
        x.seasons(1);
        check.due("SEASON", 9999, () -> x.count(5));
        x.seasons(50);
        check.due("SEASON", 9999, () -> x.count(5));
        check.due("draws go on", afterDraws(199 * 50 + 48 + 1 + 1 + 50), () -> x.seed(1));
        Check.walk(x, Scenes.THREE + ";rope 0 1 2 long 9;hang 0 14");
        check.due("ropes break still", 1, () -> x.seasons(1));
        check.due("in SEASON 9999", 9999, () -> x.log(0, 0));
        Check.law(x, "wear 7 if winter");
        check.due("which is winter", 7, () -> x.rope(0, 11));
    }

    private void draws() {
        check.sentence("DRAW: SEED is 1103515245 times SEED and 12345, as an int that goes round; bits 16 to 30 (SEED 1 at first).");
        bounds.answers(1, "SEED at first", Scenes::empty, x -> x.seed(5));
        for (int seed : SEEDS) {
            bounds.answers(nextSeed(seed), "SEED behind " + seed, Bounds.after(() -> seeded(seed, "gale 50"), x -> x.seasons(1)),
                    x -> x.seed(0));
            int draw = drawModulo100(seed);
            bounds.answers(1, "SEED " + seed + ": DAMP above the DRAW",
                    Bounds.after(() -> dampSeed(seed, draw + 1), x -> x.seasons(1)), x -> x.yarn(0, 2));
            bounds.answers(0, "SEED " + seed + ": DAMP as the DRAW", Bounds.after(() -> dampSeed(seed, draw), x -> x.seasons(1)),
                    x -> x.yarn(0, 2));
        }
    }

    /** One yarn, whose draw, the second of the season, is the one that this seed tells. */
    private static YearRope dampSeed(int seed, int damp) {
        YearRope x = Check.shed("yarn 9 long 1 rot 0 reign 0;damp " + damp);
        // what the multiplier's inverse, modulo 2 to the 32nd, takes back
        BigInteger round = BigInteger.ONE.shiftLeft(32);
        BigInteger inverse = BigInteger.valueOf(1103515245).modInverse(round);
        x.seed(BigInteger.valueOf(seed).subtract(BigInteger.valueOf(12345)).multiply(inverse).intValue());
        return x;
    }
}

/** The boundaries of the document's first terms: YARNS, ROPES, ORDERS, GALE, DAMP, SEASON. */
public final class TermsBoundsTest {

    private static final String YARN = "yarn 9 long 9 rot 0 reign 0";
    private static final String ROPE = "rope 0 1 2 long 1";
    private static final String ORDER = "order 1 long 1 pay 1";

    private final Check check = new Check("TermsBoundsTest");
    private final Bounds bounds = new Bounds(check);

    public static void main(String[] args) {
        TermsBoundsTest test = new TermsBoundsTest();
        test.yarns();
        test.numbersOfYarns();
        test.ropes();
        test.numbersOfRopes();
        test.orders();
        test.weather();
        test.check.end();
    }

    private static YearRope yarns(int count) {
        return Check.shed(Scenes.lines(YARN, count));
    }

    private static YearRope ropes(int count) {
        return Check.shed(Scenes.THREE, Scenes.lines(ROPE, count));
    }

    private static YearRope orders(int count) {
        return Check.shed(Scenes.lines(ORDER, count));
    }

    private void yarns() {
        check.sentence("YARNS (years; at most 10, numbered from 0 on)");
        String last = "yarn 30 long 1 rot 2 reign 3";
        bounds.rightWalk(() -> yarns(9), last, 10, x -> x.count(0));
        bounds.rightWalk(() -> yarns(9), last, 30, x -> x.yarn(9, 0));
        bounds.rightWalk(() -> yarns(9), last, 9, x -> x.yarn(0, 0));
        bounds.wrongWalk(() -> yarns(10), "^" + last);
        bounds.wrongWalk(() -> yarns(10), "gale 1;^yarn");
        bounds.wrongWalk(() -> yarns(9), last + "; ^" + last);
        bounds.indices("the STRENGTH", () -> yarns(10), 10, (x, n) -> x.yarn(n, 0));
        bounds.indices("the STRENGTH", () -> yarns(1), 1, (x, n) -> x.yarn(n, 0));
        bounds.noIndex("the first of no YARNS", Scenes::empty, x -> x.yarn(0, 0));
    }

    private void numbersOfYarns() {
        check.sentence("STRENGTH 1 to 30");
        bounds.walkNumber(Scenes::empty, "yarn # long 1 rot 0 reign 0", 1, 30, x -> x.yarn(0, 0));
        check.sentence("LENGTH 0 to 200 (FATHOMS left in the shed)");
        bounds.walkNumber(Scenes::empty, "yarn 1 long # rot 0 reign 0", 0, 200, x -> x.yarn(0, 1));
        bounds.answers(1, "LENGTH 30, FATHOMS 29", Bounds.after(Scenes::three, x -> x.lay(0, 1, 2, 29)), x -> x.yarn(1, 1));
        bounds.answers(0, "LENGTH 30, FATHOMS 30", Bounds.after(Scenes::three, x -> x.lay(0, 1, 2, 30)), x -> x.yarn(1, 1));
        check.sentence("ROT 0 to 9, ");
        bounds.walkNumber(Scenes::empty, "yarn 1 long 1 rot # reign 0", 0, 9, x -> x.yarn(0, 2));
        check.sentence("REIGN 0 to 5");
        bounds.walkNumber(Scenes::empty, "yarn 1 long 1 rot 0 reign #", 0, 5, x -> x.yarn(0, 3));
    }

    private void ropes() {
        check.sentence("ROPES (at most 8, numbered from 0 on): three unlike YARNS");
        bounds.rightWalk(() -> ropes(7), "rope 2 1 0 long 3", 8, x -> x.count(1));
        bounds.rightWalk(() -> ropes(7), "rope 2 1 0 long 3", 2, x -> x.rope(7, 0));
        bounds.rightWalk(() -> ropes(7), "rope 2 1 0 long 3", 0, x -> x.rope(0, 0));
        bounds.wrongWalk(() -> ropes(8), "^rope 2 1 0 long 3");
        bounds.wrongWalk(() -> ropes(7), ROPE + ";^" + ROPE);
        bounds.answers(7, "an eighth that is laid", () -> ropes(7), x -> x.lay(0, 1, 2, 3));
        bounds.noSupport("a ninth that is laid", () -> ropes(8), x -> x.lay(0, 1, 2, 3));
        bounds.answers(7, "an eighth that is cut", () -> sevenAndOneOfThree(0), x -> x.cut(0, 1));
        bounds.noSupport("a ninth that is cut", () -> sevenAndOneOfThree(1), x -> x.cut(0, 1));
        bounds.answers(7, "an eighth in place of one that was picked", Bounds.after(() -> ropes(8), x -> x.pick(3)),
                x -> x.lay(0, 1, 2, 3));
        bounds.indices("the LONG", () -> ropes(8), 8, (x, n) -> x.rope(n, 3));
        bounds.indices("the LONG", Scenes::oneRope, 1, (x, n) -> x.rope(n, 3));
        bounds.noIndex("the first of no ROPES", Scenes::three, x -> x.rope(0, 3));
        bounds.wrongWalk(Scenes::three, "rope 0 ^0 1 long 1");
        bounds.wrongWalk(Scenes::three, "rope 0 1 ^0 long 1");
        bounds.wrongWalk(Scenes::three, "rope 0 1 ^1 long 1");
    }

    /** The first rope is long enough to be cut. */
    private static YearRope sevenAndOneOfThree(int more) {
        return Check.shed(Scenes.THREE, "rope 0 1 2 long 3;" + Scenes.lines(ROPE, 6 + more));
    }

    private void numbersOfRopes() {
        check.sentence("LONG (FATHOMS) 1 to 400; TAR");
        bounds.arguments("what a TRIAL ROPE BEARS, so LONG", Scenes::three, 1, 400, (x, n) -> x.bears(0, 1, 2, n));
        check.sentence("TAR 0 to 9, WEAR");
        bounds.walkNumber(Scenes::oneRope, "tar 0 #", 0, 9, x -> x.rope(0, 4));
        bounds.answers(0, "TAR at first", Scenes::oneRope, x -> x.rope(0, 4));
        bounds.answers(9, "TAR 8 once more", () -> told("tar 0 8"), x -> x.tar(0));
        bounds.answers(9, "TAR 9 once more", () -> told("tar 0 9"), x -> x.tar(0));
        check.sentence("WEAR 0 to 99, WHIPPED");
        bounds.answers(0, "WEAR at first", Scenes::oneRope, x -> x.rope(0, 5));
        bounds.answers(98, "WEAR of 98", () -> worn(49, 2), x -> x.rope(0, 5));
        bounds.answers(99, "WEAR of 99", () -> worn(33, 3), x -> x.rope(0, 5));
        bounds.answers(99, "WEAR of 100", () -> worn(50, 2), x -> x.rope(0, 5));
        check.sentence("WHIPPED or not, PLIES 1 to 8 (1 at first); BROKEN or not");
        bounds.answers(0, "WHIPPED at first", Scenes::oneRope, x -> x.rope(0, 6));
        bounds.answers(1, "WHIPPED then", () -> told("whip 0"), x -> x.rope(0, 6));
        bounds.answers(1, "PLIES at first", Scenes::oneRope, x -> x.rope(0, 7));
        bounds.answers(8, "4 PLIES twice", () -> doubled(2), x -> x.twice(0));
        bounds.noState("8 PLIES twice", () -> doubled(3), x -> x.twice(0));
        bounds.answers(0, "BROKEN at first", Scenes::oneRope, x -> x.rope(0, 8));
        bounds.answers(1, "BROKEN then", Bounds.after(() -> told("hang 0 14"), x -> x.seasons(1)), x -> x.rope(0, 8));
        check.sentence("a LOAD 0 to 999 that hangs on it (0: none)");
        bounds.walkNumber(Scenes::oneRope, "hang 0 #", 0, 999, x -> x.rope(0, 9));
        bounds.arguments("hanging", Scenes::oneRope, 0, 999, (x, n) -> x.hang(0, n));
        bounds.answers(0, "LOAD at first", Scenes::oneRope, x -> x.rope(0, 9));
        bounds.noState("1 hangs: it meets nothing", () -> told("order 1 long 1 pay 1;hang 0 1"), x -> x.meet(0, 0));
        bounds.answers(1, "0 hangs: it meets", () -> told("order 1 long 1 pay 1;hang 0 0"), x -> x.meet(0, 0));
    }

    /** One rope, and a text more. */
    private static YearRope told(String text) {
        YearRope x = Scenes.oneRope();
        Check.walk(x, text);
        return x;
    }

    private static YearRope worn(int by, int seasons) {
        YearRope x = Scenes.oneRope();
        Check.law(x, "wear " + by);
        x.seasons(seasons);
        return x;
    }

    private static YearRope doubled(int times) {
        YearRope x = Scenes.oneRope();
        for (int i = 0; i < times; i++) {
            x.twice(0);
        }
        return x;
    }

    private void orders() {
        check.sentence("ORDERS (at most 8, numbered from 0 on)");
        String last = "order 400 long 60 pay 99";
        bounds.rightWalk(() -> orders(7), last, 8, x -> x.count(2));
        bounds.rightWalk(() -> orders(7), last, 400, x -> x.order(7, 0));
        bounds.rightWalk(() -> orders(7), last, 1, x -> x.order(0, 0));
        bounds.wrongWalk(() -> orders(8), "^" + last);
        bounds.wrongWalk(() -> orders(7), last + ";^" + last);
        bounds.indices("the LOAD", () -> orders(8), 8, (x, n) -> x.order(n, 0));
        bounds.indices("the LOAD", () -> orders(1), 1, (x, n) -> x.order(n, 0));
        bounds.noIndex("the first of no ORDERS", Scenes::empty, x -> x.order(0, 0));
        check.sentence("a LOAD 1 to 400, LONG");
        bounds.walkNumber(Scenes::empty, "order # long 1 pay 0", 1, 400, x -> x.order(0, 0));
        check.sentence("LONG 1 to 60, PAY");
        bounds.walkNumber(Scenes::empty, "order 1 long # pay 0", 1, 60, x -> x.order(0, 1));
        check.sentence("PAY 0 to 99.");
        bounds.walkNumber(Scenes::empty, "order 1 long 1 pay #", 0, 99, x -> x.order(0, 2));
    }

    private void weather() {
        check.sentence("GALE, DAMP 0 to 100 (0 at first)");
        bounds.answers(0, "GALE at first", Scenes::empty, x -> x.count(6));
        bounds.answers(0, "DAMP at first", Scenes::empty, x -> x.count(7));
        bounds.walkNumber(Scenes::empty, "gale #", 0, 100, x -> x.count(6));
        bounds.walkNumber(Scenes::empty, "damp #", 0, 100, x -> x.count(7));
        bounds.answers(0, "GALE 0: it never blows", () -> told("whip 0;hang 0 7"), x -> x.seasons(9));
        bounds.answers(1, "GALE 100: it blows at once", () -> told("whip 0;hang 0 7;gale 100"), x -> x.seasons(1));
        bounds.answers(1, "DAMP 0: it never rots", Bounds.after(() -> told("damp 0"), x -> x.seasons(9)), x -> x.yarn(0, 2));
        bounds.answers(2, "DAMP 100: it rots at once", Bounds.after(() -> told("damp 100"), x -> x.seasons(1)),
                x -> x.yarn(0, 2));
        check.sentence("SEASON: 0 at first; modulo 4 (3 is winter).");
        YearRope x = Scenes.oneRope();
        Check.law(x, "wear 0;wear 1 if winter");
        for (int season = 0; season < 9; season++) {
            int s = season;
            check.due("SEASON", s, () -> x.count(5));
            check.due("winter in SEASON " + s, s == 3 || s == 7 ? 1 : 0, () -> x.rope(0, 11));
            x.seasons(1);
        }
    }
}

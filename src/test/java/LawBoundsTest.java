/** The boundaries of a text of THE LAW, of what a ROPE BEARS and of what it WEARS by. */
public final class LawBoundsTest {

    private static final String TRUE = "1 < 2";
    private static final String FALSE = "2 < 1";

    private final Check check = new Check("LawBoundsTest");
    private final Bounds bounds = new Bounds(check);

    public static void main(String[] args) {
        LawBoundsTest test = new LawBoundsTest();
        test.linesOfTheLaw();
        test.lawsInPlaceOfOthers();
        test.grammar();
        test.numbers();
        test.factsOfItsYarns();
        test.otherFacts();
        test.soundness();
        test.bearing();
        test.wearing();
        test.check.end();
    }

    /** One rope, and a law in place of another. */
    private static YearRope under(String law) {
        YearRope x = Scenes.oneRope();
        Check.law(x, "bear 50;fail 20;wear 70");
        Check.law(x, law);
        return x;
    }

    /** By a condition that holds it WEARS by 1, else by 0. */
    private void holds(String condition) {
        bounds.answers(1, condition, () -> under("wear 1 if " + condition), x -> x.rope(0, 11));
    }

    private void failsToHold(String condition) {
        bounds.answers(0, condition, () -> under("wear 1 if " + condition), x -> x.rope(0, 11));
    }

    private void linesOfTheLaw() {
        check.sentence("THE LAW (a text, in place of the one before): LINE { ; LINE }, at most 12:");
        bounds.rightLaw(Scenes::busy, "bear 1", 1);
        bounds.rightLaw(Scenes::busy, Scenes.lines("bear 1", 12), 12);
        bounds.wrongLaw(Scenes::busy, Scenes.lines("bear 1", 12) + ";^bear 1");
        bounds.wrongLaw(Scenes::busy, Scenes.lines("bear 1", 12) + " ; ^fail 1");
        bounds.wrongLaw(Scenes::busy, Scenes.lines("bear 1", 12) + ";^(");
        bounds.wrongLaw(Scenes::busy, Scenes.lines("bear 1", 12) + ";^");
        bounds.answers(13 + 12, "twelve that lift by 1", () -> under(Scenes.lines("bear 1", 12)), x -> x.rope(0, 10));
        bounds.answers(14, "nothing of the law before", () -> under("bear 1"), x -> x.rope(0, 10));
        bounds.answers(0, "nothing of the law before", () -> under("bear 1"), x -> x.rope(0, 11));
        bounds.answers(13, "nothing by an empty law", () -> under(""), x -> x.rope(0, 10));
    }

    private void lawsInPlaceOfOthers() {
        String[] laws = {"wear 2 if " + TRUE + ";wear 1", "wear 4 if " + FALSE + " or " + TRUE, "wear 8 if " + FALSE + ";wear 16"};
        int[] wears = {3, 4, 16};
        YearRope x = Scenes.oneRope();
        int[] row = {0, 1, 2, 0, 2, 2, 1, 1, 0, 0, 2, 1, 0};
        for (int now : row) {
            // each law behind each other one, and behind each by two
            Check.law(x, laws[now]);
            check.due("law " + now + " alone", wears[now], () -> x.rope(0, 11));
        }
    }

    private void grammar() {
        check.sentence("bear N [ if C ] | fail N [ if C ] | wear N [ if C ].");
        for (String kind : new String[] {"bear", "fail", "wear"}) {
            bounds.rightLaw(Scenes::empty, kind + " 5", 1);
            bounds.rightLaw(Scenes::empty, kind + " 5 if winter", 1);
            bounds.wrongLaw(Scenes::busy, kind + " ^if winter");
            bounds.wrongLaw(Scenes::busy, "^5 if winter");
            bounds.wrongLaw(Scenes::busy, kind + " 5;^5");
            bounds.wrongLaw(Scenes::busy, kind + " 5 ^winter");
            bounds.wrongLaw(Scenes::busy, kind + " 5 if ^");
            bounds.wrongLaw(Scenes::busy, kind + " 5 if winter ^if winter");
        }
        check.sentence("C: ALL { or ALL }; ALL: ATOM { and ATOM }; ATOM: not ATOM | ( C ) | whipped | winter |");
        holds(TRUE + " or " + TRUE + " and " + FALSE);
        failsToHold("(" + TRUE + " or " + TRUE + ") and " + FALSE);
        failsToHold(TRUE + " and (" + FALSE + ")");
        failsToHold(TRUE + " and (" + FALSE + " or " + FALSE + ")");
        holds(TRUE + " and (" + FALSE + " or " + TRUE + ")");
        holds(FALSE + " or (" + TRUE + ")");
        failsToHold(FALSE + " or (" + TRUE + " and " + FALSE + ")");
        failsToHold("not " + TRUE + " and " + FALSE);
        failsToHold("not " + FALSE + " and " + FALSE);
        holds("not (" + FALSE + " and " + FALSE + ")");
        holds("not " + TRUE + " or " + TRUE);
        bounds.wrongLaw(Scenes::busy, "wear 1 if ^or winter");
        bounds.wrongLaw(Scenes::busy, "wear 1 if winter and ^or winter");
        bounds.wrongLaw(Scenes::busy, "wear 1 if winter or ^");
        bounds.wrongLaw(Scenes::busy, "wear 1 if winter ^not winter");
        bounds.wrongLaw(Scenes::busy, "wear 1 if (^)");
        bounds.wrongLaw(Scenes::busy, "wear 1 if (winter^");
        bounds.wrongLaw(Scenes::busy, "wear 1 if winter^)");
        for (String word : new String[] {"whipped", "winter"}) {
            for (String condition : new String[] {"#", "# and " + TRUE, "# or " + FALSE, "not not #"}) {
                bounds.answers(1, word + " in " + condition, () -> whippedInWinter(condition.replace("#", word)), x -> x.rope(0, 11));
                failsToHold(condition.replace("#", word));
                bounds.answers(0, "not " + condition, () -> whippedInWinter("not (" + condition.replace("#", word) + ")"),
                        x -> x.rope(0, 11));
            }
            bounds.answers(0, "not " + word, () -> whippedInWinter("not " + word), x -> x.rope(0, 11));
            holds("not " + word);
        }
        check.sentence("SUM < SUM | SUM > SUM. SUM: PART { + PART }; PART: NUMBER | weak | strong |");
        holds("weak + 5 < strong + 1");
        failsToHold("weak + 5 < strong");
        holds("12 < 13");
        failsToHold("13 < 13");
        failsToHold("13 > 13");
        holds("13 > 12");
        holds("6 + 7 > 12");
        failsToHold("6 + 7 > 6 + 7");
        holds("999 + 999 + 999 > 999 + 998 + 999");
        bounds.wrongLaw(Scenes::busy, "wear 1 if worn ^");
        bounds.wrongLaw(Scenes::busy, "wear 1 if worn < ^");
        bounds.wrongLaw(Scenes::busy, "wear 1 if worn + ^< 3");
        bounds.wrongLaw(Scenes::busy, "wear 1 if worn < 3 ^> 2");
        bounds.wrongLaw(Scenes::busy, "wear 1 if worn < ^(3)");
    }

    private static YearRope whippedInWinter(String condition) {
        YearRope x = Scenes.oneRope();
        x.whip(0);
        x.seasons(3);
        Check.law(x, "wear 1 if " + condition);
        return x;
    }

    private void numbers() {
        check.sentence("All numbers are of 1 to 3 digits (N 0 to 99).");
        for (String kind : new String[] {"bear", "fail", "wear"}) {
            bounds.lawNumber(Scenes::busy, kind + " #", 0, 99);
            bounds.rightLaw(Scenes::empty, kind + " 099", 1);
            bounds.wrongLaw(Scenes::busy, kind + " ^0099");
            bounds.wrongLaw(Scenes::busy, kind + " ^4294967297");
        }
        bounds.lawNumber(Scenes::busy, "wear 1 if # < worn", 0, 999);
        bounds.lawNumber(Scenes::busy, "wear 1 if worn + # > 3", 0, 999);
        bounds.rightLaw(Scenes::empty, "wear 1 if 007 < 08", 1);
        bounds.wrongLaw(Scenes::busy, "wear 1 if ^0007 < 8");
        bounds.wrongLaw(Scenes::busy, "wear 1 if 7 < ^0008");
        bounds.answers(13 + 99, "bear 99", () -> under("bear 99"), x -> x.rope(0, 10));
        bounds.answers(99, "wear 99", () -> under("wear 99"), x -> x.rope(0, 11));
        bounds.answers(0, "wear 0", () -> under("wear 0"), x -> x.rope(0, 11));
    }

    /** A fact is above one less and below one more than it is, and neither above nor below itself. */
    private void fact(String word, int n, Bounds.Scene scene) {
        String law = "% 1 if # > " + Math.max(n - 1, 0) + ";% 2 if # < " + (n + 1) + ";% 4 if # > " + n + ";% 8 if # < " + n;
        String ofWord = law.replace("#", word);
        int holds = n == 0 ? 2 : 3;
        YearRope x = scene.make();
        Check.law(x, "bear 50");
        int bears = x.rope(0, 10);
        Check.law(x, ofWord.replace("%", "wear") + ";bear 50;" + ofWord.replace("%", "bear"));
        check.due(word + " is " + n, holds, () -> x.rope(0, 11));
        check.due(word + " is " + n + " as it BEARS", bears == 0 ? 0 : bears + holds * x.rope(0, 7), () -> x.rope(0, 10));
    }

    private static YearRope laid(String reigns, String yarns) {
        String[] reign = reigns.split(" ");
        return Check.shed("yarn 5 long 9 rot 1 reign " + reign[0] + ";yarn 8 long 9 rot 0 reign " + reign[1]
                + ";yarn 3 long 9 rot 9 reign " + reign[2] + ";yarn 30 long 9 rot 9 reign 5;rope " + yarns + " long 9");
    }

    private void factsOfItsYarns() {
        check.sentence("Of a ROPE: weak, strong: the least, the greatest STRENGTH of its YARNS; rot: ROT of all three together;");
        for (String yarns : new String[] {"0 1 2", "1 2 0", "2 0 1", "2 1 0"}) {
            fact("weak", 3, () -> laid("0 1 2", yarns));
            fact("strong", 8, () -> laid("0 1 2", yarns));
            fact("rot", 10, () -> laid("0 1 2", yarns));
        }
        fact("rot", 0, () -> Check.shed(Scenes.lines("yarn 9 long 9 rot 0 reign 0", 3) + ";rope 0 1 2 long 9"));
        fact("rot", 27, () -> Check.shed(Scenes.lines("yarn 9 long 9 rot 9 reign 0", 3) + ";rope 0 1 2 long 9"));
        check.sentence("reigns: how many unlike REIGNS they have; worn: its WEAR.");
        fact("reigns", 1, () -> laid("0 0 0", "0 1 2"));
        fact("reigns", 1, () -> laid("5 5 5", "0 1 2"));
        fact("reigns", 2, () -> laid("0 0 5", "0 1 2"));
        fact("reigns", 2, () -> laid("0 5 0", "0 1 2"));
        fact("reigns", 2, () -> laid("5 0 0", "0 1 2"));
        fact("reigns", 3, () -> laid("0 4 5", "0 1 2"));
        fact("worn", 0, Scenes::oneRope);
        fact("worn", 99, () -> {
            YearRope x = under("wear 99");
            x.seasons(1);
            return x;
        });
    }

    private void otherFacts() {
        check.sentence("rot | reigns | tar | worn | long | plies | load.");
        fact("tar", 0, Scenes::oneRope);
        fact("tar", 9, () -> told("tar 0 9"));
        fact("long", 20, Scenes::oneRope);
        fact("long", 200, () -> Check.shed(Scenes.lines("yarn 9 long 200 rot 9 reign 0", 3) + ";rope 0 1 2 long 200"));
        fact("long", 0, () -> {
            YearRope x = Scenes.oneRope();
            x.seasons(20);
            return x;
        });
        fact("plies", 1, Scenes::oneRope);
        fact("plies", 8, () -> {
            YearRope x = Scenes.oneRope();
            x.twice(0);
            x.twice(0);
            x.twice(0);
            return x;
        });
        fact("load", 0, Scenes::oneRope);
        fact("load", 998, () -> told("hang 0 998"));
        bounds.answers(18, "LONG 400 of a TRIAL ROPE", () -> under("bear 5 if long > 399"), x -> x.bears(0, 1, 2, 400));
    }

    private static YearRope told(String text) {
        YearRope x = Scenes.oneRope();
        Check.walk(x, text);
        return x;
    }

    /** Three yarns of these strengths and rots, and a rope of them. */
    private static YearRope laidOf(int... strengthsAndRots) {
        StringBuilder text = new StringBuilder();
        for (int i = 0; i < 6; i += 2) {
            text.append("yarn ").append(strengthsAndRots[i]).append(" long 9 rot ").append(strengthsAndRots[i + 1])
                    .append(" reign 0;");
        }
        return Check.shed(text + "rope 0 1 2 long 9");
    }

    private void soundness() {
        check.sentence("BEARS: for each of its three YARNS STRENGTH less ROT (0 at least), together,");
        bounds.answers(1 + 4, "STRENGTH 5, ROT 4", () -> laidOf(5, 4, 2, 0, 2, 0), x -> x.rope(0, 10));
        bounds.answers(4, "STRENGTH 5, ROT 5", () -> laidOf(5, 5, 2, 0, 2, 0), x -> x.rope(0, 10));
        bounds.answers(4, "STRENGTH 5, ROT 6", () -> laidOf(5, 6, 2, 0, 2, 0), x -> x.rope(0, 10));
        bounds.answers(4, "the second rotten", () -> laidOf(2, 0, 1, 9, 2, 0), x -> x.rope(0, 10));
        bounds.answers(4, "the third rotten", () -> laidOf(2, 0, 2, 0, 1, 9), x -> x.rope(0, 10));
        bounds.answers(0, "all rotten", () -> laidOf(1, 9, 1, 9, 1, 9), x -> x.rope(0, 10));
        bounds.answers(90, "all of 30", () -> laidOf(30, 0, 30, 0, 30, 0), x -> x.rope(0, 10));
    }

    private static YearRope worn(int wear, String law) {
        YearRope x = Scenes.oneRope();
        Check.law(x, "wear " + wear);
        x.seasons(1);
        Check.law(x, law);
        return x;
    }

    private void bearing() {
        check.sentence("and the sum of N of all bear LINES that hold less that of all fail LINES, less WEAR by 10, "
                + "rounded down (0 at least), times PLIES;");
        bounds.answers(13 + 12 - 3, "7 + 5 - 3", () -> under("bear 7;bear 5;fail 3;bear 9 if winter;fail 9 if winter"),
                x -> x.rope(0, 10));
        int[][] wears = {{0, 13}, {1, 13}, {9, 13}, {10, 12}, {19, 12}, {20, 11}, {98, 4}, {99, 4}};
        for (int[] wear : wears) {
            bounds.answers(wear[1], "WEAR " + wear[0], () -> worn(wear[0], ""), x -> x.rope(0, 10));
        }
        bounds.answers(1, "1 is left", () -> under("fail 12"), x -> x.rope(0, 10));
        bounds.answers(0, "nothing is left", () -> under("fail 13"), x -> x.rope(0, 10));
        bounds.answers(0, "less than nothing is left", () -> under("fail 14"), x -> x.rope(0, 10));
        bounds.answers(0, "less than nothing by WEAR", () -> worn(20, "fail 12"), x -> x.rope(0, 10));
        bounds.answers(1, "1 is left by WEAR", () -> worn(20, "fail 10"), x -> x.rope(0, 10));
        bounds.answers(0, "less than nothing, doubled", Bounds.after(() -> under("fail 14"), x -> x.twice(0)),
                x -> x.rope(0, 10));
        bounds.answers(2, "1 is left, doubled", Bounds.after(() -> under("fail 12"), x -> x.twice(0)), x -> x.rope(0, 10));
        bounds.answers(11 * 2, "WEAR 20 is taken ahead of the PLIES", Bounds.after(() -> worn(20, ""), x -> x.twice(0)),
                x -> x.rope(0, 10));
        check.sentence("0, if it is BROKEN. WEARS");
        bounds.answers(0, "a BROKEN one, however much a law lifts", () -> brokenUnder("bear 99"), x -> x.rope(0, 10));
    }

    private static YearRope brokenUnder(String law) {
        YearRope x = told("hang 0 14");
        x.seasons(1);
        Check.law(x, law);
        return x;
    }

    private void wearing() {
        check.sentence("WEARS by: the sum of N of all wear LINES that hold (1 without a text).");
        bounds.answers(1, "without a text", Scenes::oneRope, x -> x.rope(0, 11));
        bounds.answers(0, "an empty text", () -> under(""), x -> x.rope(0, 11));
        bounds.answers(0, "a text of blanks", () -> under("   "), x -> x.rope(0, 11));
        bounds.answers(0, "without a wear LINE", () -> under("bear 9;fail 8"), x -> x.rope(0, 11));
        bounds.answers(0, "none holds", () -> under("wear 9 if winter"), x -> x.rope(0, 11));
        bounds.answers(12 * 99, "as much as can be", () -> under(Scenes.lines("wear 99", 12)), x -> x.rope(0, 11));
        bounds.answers(7, "of a BROKEN one too", () -> brokenUnder("wear 7"), x -> x.rope(0, 11));
        bounds.answers(1, "behind a wrong text alone", () -> {
            YearRope x = Scenes.oneRope();
            Check.feed(x, "wear 5;");
            Check.outcome(x::law);
            return x;
        }, x -> x.rope(0, 11));
    }
}

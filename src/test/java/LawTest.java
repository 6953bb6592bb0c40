/** Promises 5 (law) and 6 (fault), and by them what a ROPE BEARS and WEARS by. */
public final class LawTest {

    public static void main(String[] args) {
        Check check = new Check("LawTest");
        withoutAText(check);
        linesThatHold(check);
        facts(check);
        orAndNot(check);
        wrongThings(check);
        depth(check);
        longTexts(check);
        tooManyLines(check);
        check.end();
    }

    /** BEARS 4 + 8 + 1 = 13 by its yarns alone; weak 3, strong 8, rot 3, reigns 2. */
    private static YearRope shed() {
        return Check.shed("yarn 5 long 40 rot 1 reign 0;yarn 8 long 30 rot 0 reign 1;yarn 3 long 50 rot 2 reign 0;"
                + "rope 0 1 2 long 20");
    }

    private static void withoutAText(Check check) {
        YearRope x = shed();
        check.due("lines without a law", -1, () -> x.count(4));
        check.due("bears", 13, () -> x.rope(0, 10));
        check.due("wears by 1", 1, () -> x.rope(0, 11));
        check.due("an empty law", 0, () -> Check.law(x, "  "));
        check.due("lines of an empty law", 0, () -> x.count(4));
        check.due("wears by nothing then", 0, () -> x.rope(0, 11));
        check.due("bears still", 13, () -> x.rope(0, 10));
        YearRope y = Check.shed("yarn 2 long 9 rot 9 reign 0;yarn 1 long 9 rot 3 reign 0;yarn 4 long 9 rot 4 reign 0;"
                + "yarn 9 long 9 rot 3 reign 0;rope 0 1 2 long 1;rope 0 1 3 long 1");
        check.due("all rotten", 0, () -> y.rope(0, 10));
        check.due("rot takes from its own yarn alone", 6, () -> y.rope(1, 10));
    }

    private static void linesThatHold(Check check) {
        YearRope x = shed();
        check.due("five lines", 5, () -> Check.law(x, "bear 7;fail 2;bear 90 if whipped;wear 3;wear 4 if not whipped"));
        check.due("lines", 5, () -> x.count(4));
        check.due("13 + 7 - 2", 18, () -> x.rope(0, 10));
        check.due("3 + 4", 7, () -> x.rope(0, 11));
        x.whip(0);
        check.due("13 + 7 - 2 + 90", 108, () -> x.rope(0, 10));
        check.due("3", 3, () -> x.rope(0, 11));
        x.twice(0);
        check.due("twice the plies", 216, () -> x.rope(0, 10));
        check.due("in place of the law before", 1, () -> Check.law(x, "fail 14"));
        check.due("0 at least", 0, () -> x.rope(0, 10));
        Check.law(x, "wear 19");
        x.seasons(1);
        check.due("wear 19 takes 1", 24, () -> x.rope(0, 10));
        x.seasons(1);
        check.due("wear 38 takes 3", 20, () -> x.rope(0, 10));
        x.seasons(10);
        check.due("wear is 99 at most", 99, () -> x.rope(0, 5));
        check.due("wear 99 takes 9", 8, () -> x.rope(0, 10));
        check.wrongLaw(x, "wear 5;bear", 11);
        check.due("the law before a wrong one stands", 19, () -> x.rope(0, 11));
        check.due("its lines too", 1, () -> x.count(4));
        x.tar(0);
        Check.law(x, "wear 5");
        check.due("a right law: no act is remembered", 0, () -> x.count(14));
    }

    /** Each fact just meets the number that it is. */
    private static void facts(Check check) {
        YearRope x = shed();
        Check.law(x, "wear 7");
        x.seasons(1);
        x.tar(0);
        x.tar(0);
        x.twice(0);
        x.hang(0, 4);
        x.seasons(1);
        Object[][] facts = {{"weak", 3}, {"strong", 8}, {"rot", 3}, {"reigns", 2}, {"tar", 2}, {"worn", 7},
            {"long", 8}, {"plies", 2}, {"load", 4}, {"12", 12}, {"999", 999}, {"weak+rot + 1", 7}};
        for (Object[] fact : facts) {
            String word = (String) fact[0];
            int n = (Integer) fact[1];
            Check.law(x, "wear 1 if " + word + "<" + (n == 999 ? "999" : n + 1) + ";wear 2 if " + word + ">" + (n - 1)
                    + ";wear 4 if " + word + " < " + n + ";wear 8 if " + n + " < " + word + ";wear 16 if " + n + " > " + word);
            check.due(word + " is " + n, n == 999 ? 2 : 3, () -> x.rope(0, 11));
        }
        x.lay(2, 0, 1, 1);
        x.lay(1, 2, 0, 1);
        Check.law(x, "wear 1 if weak > 2 and weak < 4;wear 2 if strong > 7 and strong < 9;wear 4 if reigns > 1;wear 8 if rot > 2");
        for (int rope = 0; rope < 3; rope++) {
            int r = rope;
            check.due("weak, strong, reigns, rot whatever stands first " + r, 15, () -> x.rope(r, 11));
        }
        Check.law(x, "wear 1 if winter;wear 2 if whipped");
        check.due("season 2, not whipped", 0, () -> x.rope(0, 11));
        x.seasons(1);
        x.whip(0);
        check.due("season 3, whipped", 3, () -> x.rope(0, 11));
        x.seasons(1);
        check.due("season 4", 2, () -> x.rope(0, 11));
        x.seasons(3);
        check.due("season 7", 3, () -> x.rope(0, 11));
    }

    private static void orAndNot(Check check) {
        YearRope x = shed();
        String t = "1<2";
        String f = "2<1";
        Object[][] rows = {
            {t + " or " + t + " and " + f, 1}, {"(" + t + " or " + t + ") and " + f, 0},
            {f + " and " + f + " or " + t, 1}, {f + " and (" + f + " or " + t + ")", 0},
            {"not " + f + " and " + f, 0}, {"not (" + f + " and " + f + ")", 1},
            {"not " + t + " or " + t, 1}, {"not (" + t + " or " + t + ")", 0},
            {"not not " + t, 1}, {"not not not " + t, 0}, {"not whipped and not winter", 1},
            {"1+1+1>2", 1}, {"1+1>2", 0}, {"3>1+1", 1}, {"2>1+1", 0}, {"1>1", 0}, {"1<1", 0},
            {"((((((" + t + "))))))", 1}, {f + " or " + f + " or " + t, 1}, {t + " and " + t + " and " + f, 0}};
        for (Object[] row : rows) {
            Check.law(x, "wear 1 if " + row[0]);
            check.due("wear 1 if " + row[0], row[1], () -> x.rope(0, 11));
        }
    }

    private static void wrongThings(Check check) {
        YearRope x = new YearRope();
        check.wrongLaw(x, ";", 0);
        check.wrongLaw(x, "gale 5", 0);
        check.wrongLaw(x, "bear", 4);
        check.wrongLaw(x, "bear x", 5);
        check.wrongLaw(x, "bear 100", 5);
        check.wrongLaw(x, "bear 0100", 5);
        check.wrongLaw(x, "bears 1", 0);
        check.wrongLaw(x, "bear 5 whipped", 7);
        check.wrongLaw(x, "bear 5 6", 7);
        check.wrongLaw(x, "bear 5 if", 9);
        check.wrongLaw(x, "bear 5 if ;", 10);
        check.wrongLaw(x, "bear 5 if or", 10);
        check.wrongLaw(x, "bear 5 if whippedand winter", 10);
        check.wrongLaw(x, "bear 5 if whipped and", 21);
        check.wrongLaw(x, "bear 5 if whipped winter", 18);
        check.wrongLaw(x, "bear 5 if whipped < 3", 18);
        check.wrongLaw(x, "bear 5 if weak", 14);
        check.wrongLaw(x, "bear 5 if weak and", 15);
        check.wrongLaw(x, "bear 5 if weak = 3", 15);
        check.wrongLaw(x, "bear 5 if weak + < 3", 17);
        check.wrongLaw(x, "bear 5 if weak < whipped", 17);
        check.wrongLaw(x, "bear 5 if weak < 1000", 17);
        check.wrongLaw(x, "bear 5 if 0001 < 1", 10);
        check.wrongLaw(x, "bear 5 if weak < 3 < 4", 19);
        check.wrongLaw(x, "bear 5 if (weak) < 3", 15);
        check.wrongLaw(x, "bear 5 if (winter", 17);
        check.wrongLaw(x, "bear 5 if (winter;", 17);
        check.wrongLaw(x, "bear 5 if winter)", 16);
        check.wrongLaw(x, "bear 5 if ()", 11);
        check.wrongLaw(x, "bear 5 if not", 13);
        check.wrongLaw(x, "bear 5 if not not )", 18);
        check.wrongLaw(x, "bear 5;", 7);
        check.wrongLaw(x, "bear 5 ; ", 9);
        check.wrongLaw(x, "bear 5;;bear 5", 7);
        check.wrongLaw(x, "bear 5 if weak < 3 " + (char) 200, 19);
        check.due("no law behind wrong ones", -1, () -> x.count(4));
        check.due("without blanks", 2, () -> Check.law(x, "bear5if not(weak<3)and winter or whipped;wear0"));
        check.due("fault", -1, x::fault);
    }

    private static void depth(Check check) {
        YearRope x = shed();
        check.due("six deep", 1, () -> Check.law(x, "wear 1 if not(not(not(1<2)))"));
        check.due("which holds not", 0, () -> x.rope(0, 11));
        check.wrongLaw(x, "wear 1 if ((((((( 1<2 )))))))", 16);
        check.wrongLaw(x, "wear 1 if not not not not not not not 1<2", 34);
        check.wrongLaw(x, "wear 1 if not (not (not (not 1<2", 25);
        check.wrongLaw(x, "wear 1 if not (not (not ( (", 26);
        check.due("side by side is not within", 1, () -> Check.law(x,
                "wear 1 if not not not not not not winter and ((((((winter)))))) or not (not (not (1<2)))"));
    }

    private static void longTexts(Check check) {
        YearRope x = shed();
        String nest = "2<1 or 1<2 and (".repeat(6);
        Check.law(x, "wear 1 if " + nest + "2<1 or 1<2 and 2<1+1+1" + ")".repeat(6));
        check.due("as much stands open as can", 1, () -> x.rope(0, 11));
        Check.law(x, "wear 1 if " + nest + "2<1 or 1<2 and 3<1+1+1" + ")".repeat(6));
        check.due("and fails by its innermost part", 0, () -> x.rope(0, 11));
        String full = "wear 7 if " + "1+".repeat(192) + "1<194";
        check.due("its bytes", 399, full::length);
        Check.law(x, full + " ");
        check.due("a sum of 193", 7, () -> x.rope(0, 11));
        Check.law(x, full.replace("<194", "<193"));
        check.due("is not below 193", 0, () -> x.rope(0, 11));
        check.wrongLaw(x, full + ";", 400);
    }

    private static void tooManyLines(Check check) {
        YearRope x = new YearRope();
        String lines = "bear 1;fail 2;wear 3;bear 1;fail 2;wear 3;bear 1;fail 2;wear 3;bear 1;fail 2;wear 3";
        check.wrongLaw(x, lines + "; bear 1", 85);
        check.wrongLaw(x, lines + ";", 84);
        check.due("12 lines", 12, () -> Check.law(x, lines));
    }
}

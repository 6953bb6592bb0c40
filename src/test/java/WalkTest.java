/** Promises 4 (walk) and 6 (fault): the texts of THE WALK. */
public final class WalkTest {

    private static final String THREE = "yarn 5 long 9 rot 0 reign 0;yarn 6 long 8 rot 1 reign 1;yarn 7 long 7 rot 2 reign 2";

    public static void main(String[] args) {
        Check check = new Check("WalkTest");
        rightTexts(check);
        blanks(check);
        wrongThings(check);
        boundsOfNumbers(check);
        tooMany(check);
        ropesThatCanBeTold(check);
        twelveTexts(check);
        nothingStaysOfAWrongText(check);
        check.end();
    }

    private static void rightTexts(Check check) {
        YearRope x = Check.shed(THREE + ";rope 2 0 1 long 7;order 400 long 60 pay 99;order 1 long 1 pay 0");
        check.due("yarns", 3, () -> x.count(0));
        check.due("ropes", 1, () -> x.count(1));
        check.due("orders", 2, () -> x.count(2));
        check.due("texts", 1, () -> x.count(3));
        check.due("yarn 2 was used up", 0, () -> x.yarn(2, 1));
        check.due("yarn 0 has 2 left", 2, () -> x.yarn(0, 1));
        check.due("first yarn as told", 2, () -> x.rope(0, 0));
        check.due("second yarn as told", 0, () -> x.rope(0, 1));
        check.due("third yarn as told", 1, () -> x.rope(0, 2));
        x.seasons(3);
        check.due("a second text", 2, () -> Check.walk(x, "hang 0 999;tar 0 9;whip 0;gale 100;damp 0;hang 0 5"));
        check.due("fault of a right text", -1, x::fault);
        check.due("hung by the text", 5, () -> x.rope(0, 9));
        check.due("tarred by the text", 9, () -> x.rope(0, 4));
        check.due("wear stays", 3, () -> x.rope(0, 5));
        check.due("whipped by the text", 1, () -> x.rope(0, 6));
        check.due("gale by the text", 100, () -> x.count(6));
        check.due("an empty text", 3, () -> Check.walk(x, ""));
        check.due("tar back to 0", 4, () -> Check.walk(x, "tar 0 0"));
        check.due("tar is 0", 0, () -> x.rope(0, 4));
    }

    private static void blanks(Check check) {
        YearRope x = new YearRope();
        check.due("no blanks", 1, () -> Check.walk(x, "yarn5long9rot0reign0;yarn6long8rot1reign1;yarn7long7rot2reign2"));
        check.due("many blanks", 2, () -> Check.walk(x, "   rope  0   1 2long  3  ;  whip   0   "));
        check.due("it is whipped", 1, () -> x.rope(0, 6));
        check.due("blanks alone", 3, () -> Check.walk(x, "     "));
        check.due("numbers with zeros ahead", 4, () -> Check.walk(x, "gale 007;damp 000"));
        check.due("gale 007", 7, () -> x.count(6));
        check.wrongWalk(x, "gale 1 ;  ", 10);
        check.wrongWalk(x, "gale\t1", 4);
        check.wrongWalk(x, "\ngale 1", 0);
        check.wrongWalk(x, "rope 0 12long 3", 7);
    }

    private static void wrongThings(Check check) {
        YearRope x = Check.shed(THREE);
        check.wrongWalk(x, ";", 0);
        check.wrongWalk(x, "  ; gale 1", 2);
        check.wrongWalk(x, "gale 1;;gale 2", 7);
        check.wrongWalk(x, "gale 1 gale 2", 7);
        check.wrongWalk(x, "gale 1,gale 2", 6);
        check.wrongWalk(x, "gales 1", 0);
        check.wrongWalk(x, "gal 1", 0);
        check.wrongWalk(x, "Gale 1", 0);
        check.wrongWalk(x, "gale x", 5);
        check.wrongWalk(x, "gale -1", 5);
        check.wrongWalk(x, "gale ", 5);
        check.wrongWalk(x, "5", 0);
        check.wrongWalk(x, "yarn 5 lon 9", 7);
        check.wrongWalk(x, "yarn 5 rot 9", 7);
        check.wrongWalk(x, "yarn 5 long 9 reign 0", 14);
        check.wrongWalk(x, "yarn 5 long 9 rot 0 rot 0", 20);
        check.wrongWalk(x, "yarn 5 long 9 rot 0 reign 0 0", 28);
        check.wrongWalk(x, "yarn 5 long 9 rot 0 reign", 25);
        check.wrongWalk(x, "rope 0 1 2 3", 11);
        check.wrongWalk(x, "rope 0 1 2", 10);
        check.wrongWalk(x, "order 5 pay 3", 8);
        check.wrongWalk(x, "order 5 long 3 long 4", 15);
        check.wrongWalk(x, "whip", 4);
        check.wrongWalk(x, "bear 5", 0);
    }

    private static void boundsOfNumbers(Check check) {
        YearRope x = Check.shed(THREE + ";rope 0 1 2 long 1");
        check.wrongWalk(x, "yarn 0 long 1 rot 1 reign 1", 5);
        check.wrongWalk(x, "yarn 31 long 1 rot 1 reign 1", 5);
        check.wrongWalk(x, "yarn 0001 long 1 rot 1 reign 1", 5);
        check.wrongWalk(x, "yarn 1 long 201 rot 1 reign 1", 12);
        check.wrongWalk(x, "yarn 1 long 1 rot 10 reign 1", 18);
        check.wrongWalk(x, "yarn 1 long 1 rot 1 reign 6", 26);
        check.wrongWalk(x, "order 0 long 1 pay 1", 6);
        check.wrongWalk(x, "order 401 long 1 pay 1", 6);
        check.wrongWalk(x, "order 1 long 0 pay 1", 13);
        check.wrongWalk(x, "order 1 long 61 pay 1", 13);
        check.wrongWalk(x, "order 1 long 1 pay 100", 19);
        check.wrongWalk(x, "gale 101", 5);
        check.wrongWalk(x, "damp 101", 5);
        check.wrongWalk(x, "hang 0 1000", 7);
        check.wrongWalk(x, "hang 0 99999999999999999999", 7);
        check.wrongWalk(x, "tar 0 10", 6);
        check.wrongWalk(x, "rope 0 1 2 long 0", 16);
        check.wrongWalk(x, "rope 0 1 2 long 7", 16);
        check.wrongWalk(x, "rope 0 1 3 long 1", 9);
        check.wrongWalk(x, "rope 0 1 1 long 1", 9);
        check.wrongWalk(x, "rope 2 1 2 long 1", 9);
        check.wrongWalk(x, "rope 2 2 1 long 1", 7);
        check.due("all at their most", 2, () -> Check.walk(x, "yarn 30 long 200 rot 9 reign 5;gale 100;damp 100"));
        check.due("yarn of this text", 3, () -> Check.walk(x, "yarn 1 long 5 rot 0 reign 0;rope 4 3 2 long 5"));
        check.due("its rope", 4, () -> x.rope(1, 0));
    }

    private static void tooMany(Check check) {
        YearRope x = new YearRope();
        String gales = "gale 1;gale 1;gale 1;gale 1;gale 1;gale 1;gale 1;gale 1;gale 1;gale 1;gale 1;gale 1;gale 1;gale 1";
        check.wrongWalk(x, gales + ";gale 1", 98);
        check.wrongWalk(x, gales + ";  x", 100);
        check.wrongWalk(x, gales + ";", 98);
        check.due("14 lines", 1, () -> Check.walk(x, gales));
        String yarns = "yarn 1 long 9 rot 0 reign 0;yarn 1 long 9 rot 0 reign 0;yarn 1 long 9 rot 0 reign 0;"
                + "yarn 1 long 9 rot 0 reign 0;yarn 1 long 9 rot 0 reign 0";
        Check.walk(x, yarns);
        check.wrongWalk(x, yarns + "; yarn 1 long 9 rot 0 reign 0", 141);
        Check.walk(x, yarns);
        check.wrongWalk(x, "gale 2;yarn", 7);
        String ropes = "rope 0 1 2 long 1;rope 0 1 2 long 1;rope 0 1 2 long 1;rope 0 1 2 long 1";
        Check.walk(x, ropes);
        check.wrongWalk(x, ropes + ";rope 0 1 2 long 1", 72);
        Check.walk(x, ropes);
        check.wrongWalk(x, " rope 9 9 9", 1);
        String orders = "order 1 long 1 pay 1;order 1 long 1 pay 1;order 1 long 1 pay 1;order 1 long 1 pay 1";
        Check.walk(x, orders + ";" + orders);
        check.wrongWalk(x, "order 0", 0);
        check.due("yarns at most", 10, () -> x.count(0));
        check.due("ropes at most", 8, () -> x.count(1));
        check.due("orders at most", 8, () -> x.count(2));
        check.due("gale of a wrong text", 1, () -> x.count(6));
    }

    private static void ropesThatCanBeTold(Check check) {
        YearRope x = Check.shed(THREE + ";rope 0 1 2 long 1;rope 0 1 2 long 5");
        x.seasons(1);
        check.due("the first is broken", 1, () -> x.count(12));
        check.wrongWalk(x, "whip 0", 5);
        check.wrongWalk(x, "hang 0 1", 5);
        check.wrongWalk(x, "tar 0 1", 4);
        check.wrongWalk(x, "whip 2", 5);
        check.due("a rope of this text", 2, () -> Check.walk(x, "rope 0 1 2 long 1;whip 2;tar 1 3"));
        check.due("it is whipped", 1, () -> x.rope(2, 6));
    }

    private static void twelveTexts(Check check) {
        YearRope x = new YearRope();
        for (int i = 1; i <= 12; i++) {
            int want = i;
            check.due("text " + i, want, () -> Check.walk(x, "gale " + want));
        }
        check.wrongWalk(x, "gale", 4);
        check.noSupport("a right 13th text", () -> Check.walk(x, "gale 99"));
        check.due("a refused text is read all the same", -1, x::fault);
        check.due("and uses the tape up", false, () -> x.end(1));
        check.due("but changes nothing", 12, () -> x.count(6));
        check.due("texts", 12, () -> x.count(3));
        check.due("a law is no text of the walk", 1, () -> Check.law(x, "wear 2"));
    }

    private static void nothingStaysOfAWrongText(Check check) {
        YearRope x = Check.shed(THREE);
        x.lay(0, 1, 2, 1);
        check.wrongWalk(x, "gale 9;damp 9;rope 0 1 2 long 2;hang 0 7;order 1 long 1 pay 1;tar 1 3;x", 70);
        int[][] counts = {{0, 3}, {1, 1}, {2, 0}, {3, 1}, {6, 0}, {7, 0}, {8, 0}, {14, 1}};
        for (int[] c : counts) {
            check.due("count " + c[0] + " behind a wrong text", c[1], () -> x.count(c[0]));
        }
        check.due("yarn 0 has what it had", 8, () -> x.yarn(0, 1));
        check.due("the act can still be undone", true, x::undo);
        x.lay(0, 1, 2, 1);
        Check.walk(x, "");
        check.due("a right text: no act is remembered", 0, () -> x.count(14));
        check.due("nothing to undo", false, x::undo);
    }
}

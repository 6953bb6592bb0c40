/** The boundaries of a text of THE WALK. */
public final class WalkBoundsTest {

    private final Check check = new Check("WalkBoundsTest");
    private final Bounds bounds = new Bounds(check);

    public static void main(String[] args) {
        WalkBoundsTest test = new WalkBoundsTest();
        test.texts();
        test.linesOfAText();
        test.wordsOfLines();
        test.tarOfAText();
        test.fathoms();
        test.yarnsOfARope();
        test.ropesThatAreTold();
        test.digits();
        test.check.end();
    }

    private static YearRope texts(int count) {
        YearRope x = Scenes.oneRope();
        for (int i = 1; i < count; i++) {
            Check.walk(x, "");
        }
        x.tar(0);
        return x;
    }

    private void texts() {
        check.sentence("THE WALK is told in texts (at most 12, one behind another)");
        bounds.rightWalk(() -> texts(11), "gale 99", 12, x -> x.count(3));
        bounds.rightWalk(() -> texts(11), "gale 99", 99, x -> x.count(6));
        bounds.refusesText("UnsupportedOperationException", () -> texts(12), "gale 99", YearRope::walk);
        bounds.refusesText("UnsupportedOperationException", () -> texts(12), "", YearRope::walk);
        bounds.refusesText("UnsupportedOperationException", Scenes::twelveTexts, "gale 99;damp 99", YearRope::walk);
        bounds.rightWalk(Scenes::oneRope, "yarn 9 long 9 rot 9 reign 1", 4, x -> x.count(0));
        bounds.rightWalk(Scenes::oneRope, "rope 2 1 0 long 2", 20, x -> x.rope(0, 3));
        bounds.rightWalk(() -> Check.shed("gale 7"), "damp 8", 78, x -> 10 * x.count(6) + x.count(7));
        bounds.rightWalk(() -> Check.shed("gale 7"), "gale 8", 8, x -> x.count(6));
    }

    private void linesOfAText() {
        check.sentence("LINE { ; LINE }, at most 14:");
        String most = Scenes.lines("damp 9", 13) + ";";
        bounds.rightWalk(Scenes::oneRope, "damp 9", 9, x -> x.count(7));
        bounds.rightWalk(Scenes::oneRope, most + "gale 8", 8, x -> x.count(6));
        bounds.wrongWalk(Scenes::oneRope, most + "gale 8;^gale 8");
        bounds.wrongWalk(Scenes::oneRope, most + "gale 8 ;  ^whip 0");
        bounds.wrongWalk(Scenes::oneRope, most + "gale 8;^7");
        bounds.wrongWalk(Scenes::oneRope, most + "gale 8;^");
        bounds.wrongWalk(Scenes::oneRope, most + "gale 8 ^gale 8");
        bounds.wrongWalk(Scenes::oneRope, most + "^");
        bounds.wrongWalk(Scenes::oneRope, "^;gale 8");
        bounds.wrongWalk(Scenes::oneRope, "gale 8;^;gale 8");
    }

    private void wordsOfLines() {
        check.sentence("yarn N long N rot N reign N | rope Y Y Y long N | order N long N pay N | hang R N |");
        String[] lines = {"yarn 1 long 2 rot 3 reign 4", "rope 0 1 2 long 3", "order 1 long 2 pay 3", "hang 0 7",
            "tar 0 7", "whip 0", "gale 7", "damp 7"};
        for (String line : lines) {
            bounds.rightWalk(Scenes::oneRope, line, 2, x -> x.count(3));
            eachThingMissing(line.split(" "));
            bounds.wrongWalk(Scenes::oneRope, line + " ^0");
            bounds.wrongWalk(Scenes::oneRope, line + " ^long 3");
            bounds.wrongWalk(Scenes::oneRope, line + " ^" + line);
        }
    }

    /** With another thing in its place, a line is wrong there; ended ahead of it, at the text's length. */
    private void eachThingMissing(String[] things) {
        StringBuilder ahead = new StringBuilder();
        for (int i = 0; i < things.length; i++) {
            bounds.wrongWalk(Scenes::oneRope, ahead + "^x");
            bounds.wrongWalk(Scenes::oneRope, ahead + "^;");
            if (i > 0) {
                bounds.wrongWalk(Scenes::oneRope, ahead + "^");
                bounds.wrongWalk(Scenes::oneRope, ahead + "^" + things[0]);
            }
            if (i + 1 < things.length && !Character.isDigit(things[i].charAt(0))) {
                bounds.wrongWalk(Scenes::oneRope, ahead + "^" + things[i + 1]);
                bounds.wrongWalk(Scenes::oneRope, ahead + "^" + rest(things, i + 1));
            }
            ahead.append(things[i]).append(' ');
        }
    }

    private static String rest(String[] things, int from) {
        StringBuilder text = new StringBuilder();
        for (int i = from; i < things.length; i++) {
            text.append(things[i]).append(' ');
        }
        return text.toString();
    }

    private void tarOfAText() {
        check.sentence("tar R N (TAR is N then, WEAR stays) | whip R | gale N | damp N.");
        Bounds.Scene worn = () -> {
            YearRope x = Scenes.oneRope();
            x.seasons(7);
            return x;
        };
        bounds.rightWalk(worn, "tar 0 9;tar 0 3", 3, x -> x.rope(0, 4));
        bounds.rightWalk(worn, "tar 0 9", 7, x -> x.rope(0, 5));
        bounds.rightWalk(worn, "tar 0 0", 7, x -> x.rope(0, 5));
        bounds.rightWalk(worn, "whip 0;whip 0", 1, x -> x.rope(0, 6));
    }

    private void fathoms() {
        check.sentence("(N of yarn: STRENGTH;");
        bounds.rightWalk(Scenes::empty, "yarn 7 long 6 rot 5 reign 4", 7, x -> x.yarn(0, 0));
        check.sentence("rope: FATHOMS of each of three unlike YARNS, 1 to 200, no more than each has: else that N is wrong");
        Bounds.Scene longest = () -> Check.shed(Scenes.lines("yarn 9 long 200 rot 0 reign 0", 3));
        bounds.walkNumber(longest, "rope 0 1 2 long #", 1, 200, x -> x.rope(0, 3));
        String[] orders = {"0 1 2", "1 2 0", "2 0 1", "2 1 0"};
        for (String order : orders) {
            // the shortest of the three has 30
            bounds.walkNumber(Scenes::three, "rope " + order + " long #", 1, 30, x -> x.rope(0, 3));
            bounds.rightWalk(Scenes::three, "rope " + order + " long 30", 10_000 + 20,
                    x -> 1000 * x.yarn(0, 1) + 100 * x.yarn(1, 1) + x.yarn(2, 1));
        }
        bounds.rightWalk(Scenes::three, "rope 0 1 2 long 20;rope 0 1 2 long 10", 0, x -> x.yarn(1, 1));
        bounds.wrongWalk(Scenes::three, "rope 0 1 2 long 20;rope 0 1 2 long ^11");
        bounds.wrongWalk(Scenes::three, "rope 0 1 2 long 30;rope 0 1 2 long ^1");
        bounds.wrongWalk(Scenes::three, "yarn 1 long 0 rot 0 reign 0;rope 0 2 3 long ^1");
        bounds.rightWalk(Scenes::three, "yarn 1 long 1 rot 0 reign 0;rope 0 2 3 long 1", 0, x -> x.yarn(3, 1));
    }

    private void yarnsOfARope() {
        check.sentence("Y: a YARN that there is by then (one that is told twice is wrong)");
        bounds.rightWalk(Scenes::three, "rope 2 1 0 long 1", 210, x -> 100 * x.rope(0, 0) + 10 * x.rope(0, 1) + x.rope(0, 2));
        bounds.wrongWalk(Scenes::three, "rope ^3 1 2 long 1");
        bounds.wrongWalk(Scenes::three, "rope 0 ^3 2 long 1");
        bounds.wrongWalk(Scenes::three, "rope 0 1 ^3 long 1");
        bounds.wrongWalk(Scenes::three, "rope 0 1 ^999 long 1");
        bounds.wrongWalk(Scenes::empty, "rope ^0 1 2 long 1");
        bounds.rightWalk(Scenes::three, "yarn 1 long 1 rot 0 reign 0;rope 3 1 2 long 1", 3, x -> x.rope(0, 0));
        bounds.wrongWalk(Scenes::three, "rope ^3 1 2 long 1;yarn 1 long 1 rot 0 reign 0");
        bounds.wrongWalk(Scenes::three, "rope 1 ^1 1 long 1");
        bounds.wrongWalk(Scenes::three, "rope 1 ^01 2 long 1");
        bounds.wrongWalk(Scenes::three, "rope 1 0 ^1 long 1");
        bounds.wrongWalk(Scenes::three, "rope 0 1 ^1 long 1");
    }

    private void ropesThatAreTold() {
        check.sentence("R: a ROPE that is not BROKEN; N of hang 0 to 999.)");
        String[] lines = {"hang # 1", "tar # 1", "whip #"};
        Bounds.Scene firstBroken = () -> {
            YearRope x = Check.shed(Scenes.THREE + ";rope 0 1 2 long 1;rope 0 1 2 long 9");
            x.seasons(1);
            return x;
        };
        for (String line : lines) {
            bounds.wrongWalk(firstBroken, line.replace("#", "^0"));
            bounds.rightWalk(firstBroken, line.replace("#", "1"), 1, x -> x.rope(1, 4) + x.rope(1, 6) + x.rope(1, 9));
            bounds.wrongWalk(firstBroken, line.replace("#", "^2"));
            bounds.wrongWalk(firstBroken, line.replace("#", "^999"));
            bounds.wrongWalk(Scenes::three, line.replace("#", "^0"));
            bounds.rightWalk(firstBroken, "rope 0 1 2 long 1;" + line.replace("#", "2"), 1,
                    x -> x.rope(2, 4) + x.rope(2, 6) + x.rope(2, 9));
            bounds.wrongWalk(firstBroken, line.replace("#", "^2") + ";rope 0 1 2 long 1");
        }
        for (String line : lines) {
            bounds.rightWalk(Scenes::full, line.replace("#", "7"), 1, x -> x.rope(7, 4) + x.rope(7, 6) + x.rope(7, 9));
            bounds.wrongWalk(Scenes::full, line.replace("#", "^8"));
        }
        bounds.walkNumber(firstBroken, "hang 1 #", 0, 999, x -> x.rope(1, 9));
    }

    private void digits() {
        check.sentence("Numbers are of 1 to 3 digits.");
        bounds.rightWalk(Scenes::oneRope, "hang 0 7", 7, x -> x.rope(0, 9));
        bounds.rightWalk(Scenes::oneRope, "hang 0 77", 77, x -> x.rope(0, 9));
        bounds.rightWalk(Scenes::oneRope, "hang 0 777", 777, x -> x.rope(0, 9));
        bounds.rightWalk(Scenes::oneRope, "hang 000 007", 7, x -> x.rope(0, 9));
        bounds.wrongWalk(Scenes::oneRope, "hang 0 ^7777");
        bounds.wrongWalk(Scenes::oneRope, "hang 0 ^0007");
        bounds.wrongWalk(Scenes::oneRope, "hang ^0000 7");
        bounds.wrongWalk(Scenes::oneRope, "hang 0 ^");
        // 7 more than what an int, and a long, goes round at
        bounds.wrongWalk(Scenes::oneRope, "hang 0 ^4294967303");
        bounds.wrongWalk(Scenes::oneRope, "hang 0 ^18446744073709551623");
        bounds.wrongWalk(Scenes::oneRope, "hang 0 7 ^7");
    }
}

/** What a text is made of, how deep it may go, and its first wrong byte. */
public final class FaultBoundsTest {

    private final Check check = new Check("FaultBoundsTest");
    private final Bounds bounds = new Bounds(check);

    public static void main(String[] args) {
        FaultBoundsTest test = new FaultBoundsTest();
        test.words();
        test.blanks();
        test.emptyTexts();
        test.depth();
        test.numbersThatAreWrong();
        test.wordsThatAreWrong();
        test.oneTooDeep();
        test.oneTooMany();
        test.moreMustCome();
        test.endsEverywhere();
        test.firstOfSeveral();
        test.nothingStays();
        test.check.end();
    }

    private void words() {
        check.sentence("Words are as long as a to z go on; between all there may be blanks (32), also ahead and behind.");
        bounds.rightWalk(Scenes::oneRope, "gale5;damp6", 56, x -> 10 * x.count(6) + x.count(7));
        bounds.rightWalk(Scenes::three, "rope0 1 2long3", 3, x -> x.rope(0, 3));
        bounds.wrongWalk(Scenes::oneRope, "^galex 5");
        bounds.wrongWalk(Scenes::oneRope, "^xgale 5");
        bounds.wrongWalk(Scenes::oneRope, "^gal e 5");
        bounds.wrongWalk(Scenes::oneRope, "^galea 5");
        bounds.wrongWalk(Scenes::oneRope, "^galez 5");
        bounds.wrongWalk(Scenes::oneRope, "^agale 5");
        bounds.wrongWalk(Scenes::oneRope, "^zgale 5");
        bounds.wrongWalk(Scenes::oneRope, "^gal");
        bounds.wrongWalk(Scenes::oneRope, "^galedamp 5");
        bounds.rightLaw(Scenes::oneRope, "bear5if not(weak<3)and winter or whipped", 1);
        bounds.wrongLaw(Scenes::oneRope, "bear 5 if ^notwinter");
        bounds.wrongLaw(Scenes::oneRope, "bear 5 if winter ^andwinter");
        // the signs next to a and z, and to A and Z, end a word; those next to 0 and 9 end a number
        for (int sign : new int[] {'`', '{', '@', 'A', 'Z', '[', '_', '-'}) {
            bounds.wrongWalk(Scenes::oneRope, "gale^" + (char) sign + " 5");
            bounds.wrongWalk(Scenes::oneRope, "^" + (char) sign + "gale 5");
        }
        for (int sign : new int[] {'/', ':', '.', '+'}) {
            bounds.wrongWalk(Scenes::oneRope, "gale 5^" + (char) sign);
            bounds.wrongWalk(Scenes::oneRope, "gale ^" + (char) sign + "5");
        }
        bounds.wrongWalk(Scenes::oneRope, "^Gale 5");
        bounds.wrongWalk(Scenes::oneRope, "gale 5^x");
    }

    private void blanks() {
        bounds.rightWalk(Scenes::three, "  rope   0  1  2  long  3  ;  whip  0  ", 1, x -> x.rope(0, 6));
        bounds.rightLaw(Scenes::oneRope, "  bear  5  if  (  weak  +  1  <  3  )  ;  wear  0  ", 2);
        bounds.rightWalk(Scenes::oneRope, " ".repeat(394) + "gale 5", 5, x -> x.count(6));
        bounds.rightWalk(Scenes::oneRope, "gale 5" + " ".repeat(394), 5, x -> x.count(6));
        bounds.rightWalk(Scenes::oneRope, "gale" + " ".repeat(395) + "5", 5, x -> x.count(6));
        for (int sign : new int[] {0, 9, 10, 13, 31, 33, 127, 128, 160, 255}) {
            bounds.wrongWalk(Scenes::oneRope, "gale^" + (char) sign + "5");
            bounds.wrongWalk(Scenes::oneRope, "^" + (char) sign + "gale 5");
            bounds.wrongWalk(Scenes::oneRope, "gale 5 ^" + (char) sign);
            bounds.wrongLaw(Scenes::oneRope, "bear^" + (char) sign + "5");
            bounds.wrongLaw(Scenes::oneRope, "bear 5 if winter ^" + (char) sign);
        }
        bounds.wrongWalk(Scenes::oneRope, "gale 1 ^0");
    }

    private void emptyTexts() {
        check.sentence("A text that is empty, or blanks alone, has no LINE.");
        for (String text : new String[] {"", " ", "   ", " ".repeat(400)}) {
            bounds.rightWalk(Scenes::oneRope, text, 2, x -> x.count(3));
            bounds.rightWalk(Scenes::oneRope, text, 1, x -> x.count(1));
            bounds.rightLaw(Scenes::oneRope, text, 0);
        }
        bounds.wrongWalk(Scenes::oneRope, "^;");
        bounds.wrongWalk(Scenes::oneRope, "  ^;");
        bounds.wrongLaw(Scenes::oneRope, "^;");
        bounds.wrongLaw(Scenes::oneRope, "  ^;");
    }

    private void depth() {
        check.sentence("( and not within one another at most 6 deep.");
        String[] sixes = {"((((((winter))))))", "not not not not not not winter", "not(not(not(winter)))",
            "(not(not(not winter)))", "((((((winter and winter) or winter)))))", "not not not not not(winter or winter)"};
        for (String six : sixes) {
            bounds.rightLaw(Scenes::busy, "bear 1 if " + six, 1);
            bounds.rightLaw(Scenes::busy, "bear 1 if " + six + " and " + six + " or " + six + ";wear 2 if " + six, 2);
            bounds.wrongLaw(Scenes::busy, "bear 1 if " + six.replace("winter", "^not winter"));
            bounds.wrongLaw(Scenes::busy, "bear 1 if " + six.replace("winter", "^(winter)"));
        }
        bounds.answers(1, "six that turn it round are as it is", () -> under("wear 1 if not not not not not not 1 < 2"),
                x -> x.rope(0, 11));
        bounds.answers(0, "five do not", () -> under("wear 1 if not not not not not 1 < 2"), x -> x.rope(0, 11));
    }

    private static YearRope under(String law) {
        YearRope x = Scenes.oneRope();
        Check.law(x, law);
        return x;
    }

    private void numbersThatAreWrong() {
        check.sentence("The first wrong byte: the begin of the first thing that cannot stand there (a number of more digits, "
                + "or out of its bounds, or that tells none that can be;");
        bounds.wrongWalk(Scenes::oneRope, "gale ^0100");
        bounds.rightWalk(Scenes::oneRope, "gale 100", 100, x -> x.count(6));
        bounds.wrongWalk(Scenes::oneRope, "gale ^101");
        bounds.rightWalk(Scenes::oneRope, "whip 0", 1, x -> x.rope(0, 6));
        bounds.wrongWalk(Scenes::oneRope, "whip ^1");
        bounds.wrongWalk(Scenes::oneRope, "tar ^1 0");
        bounds.wrongWalk(Scenes::oneRope, "rope 0 1 ^3 long 1");
        bounds.wrongLaw(Scenes::oneRope, "bear ^0001");
        bounds.wrongLaw(Scenes::oneRope, "bear ^100");
        bounds.wrongLaw(Scenes::oneRope, "bear 1 if ^1000 < worn");
        // a number where none can stand, and none where one must
        bounds.wrongWalk(Scenes::oneRope, "^5 gale");
        bounds.wrongWalk(Scenes::oneRope, "gale ^gale");
        bounds.wrongLaw(Scenes::oneRope, "bear 5 ^5");
        bounds.wrongLaw(Scenes::oneRope, "bear ^if winter");
    }

    private void wordsThatAreWrong() {
        check.sentence("a word that is none;");
        bounds.wrongWalk(Scenes::oneRope, "^bear 5");
        bounds.wrongWalk(Scenes::oneRope, "gale 5;^twist 5");
        bounds.wrongWalk(Scenes::oneRope, "order 5 ^pay 5");
        bounds.wrongWalk(Scenes::oneRope, "order 5 ^longer 5");
        bounds.wrongWalk(Scenes::oneRope, "^ropes 0 1 2 long 1");
        bounds.wrongLaw(Scenes::oneRope, "^gale 5");
        bounds.wrongLaw(Scenes::oneRope, "bear 5;^beer 5");
        bounds.wrongLaw(Scenes::oneRope, "bear 5 ^iff winter");
        bounds.wrongLaw(Scenes::oneRope, "bear 5 if ^summer");
        bounds.wrongLaw(Scenes::oneRope, "bear 5 if ^reign < 3");
        bounds.wrongLaw(Scenes::oneRope, "bear 5 if worn < ^winter");
        bounds.wrongLaw(Scenes::oneRope, "bear 5 if worn + ^whipped < 3");
    }

    private void oneTooDeep() {
        check.sentence("the ( or not that is a 7th one deep;");
        bounds.wrongLaw(Scenes::busy, "bear 1 if ((((((^(");
        bounds.wrongLaw(Scenes::busy, "bear 1 if ((((((^not");
        bounds.wrongLaw(Scenes::busy, "bear 1 if not not not not not not ^not");
        bounds.wrongLaw(Scenes::busy, "bear 1 if not not not not not not ^(");
        bounds.wrongLaw(Scenes::busy, "bear 1 if (not (not (not ^not winter)))");
        bounds.wrongLaw(Scenes::busy, "bear 1 if ((((((winter and ^(winter)))))))");
        bounds.wrongLaw(Scenes::busy, "bear 1 if ((((((winter or ^not winter))))))");
        bounds.wrongLaw(Scenes::busy, "bear 1 if ((((((^)))))))");
        bounds.wrongLaw(Scenes::busy, "bear 1 if ((((((^");
        bounds.rightLaw(Scenes::busy, "bear 1 if ((((((winter)))))) or (((((not winter)))))", 1);
    }

    private void oneTooMany() {
        check.sentence("of a LINE, a YARN, a ROPE, an ORDER too many, the first word), or");
        bounds.wrongWalk(Scenes::oneRope, Scenes.lines("gale 1", 14) + ";  ^gale 1000");
        bounds.wrongLaw(Scenes::busy, Scenes.lines("bear 1", 12) + ";  ^bear 1000");
        bounds.wrongWalk(Scenes::full, "^yarn 0 long 0");
        bounds.wrongWalk(Scenes::full, "  ^rope 9 9 9");
        bounds.wrongWalk(Scenes::full, "gale 5; ^order 0");
        bounds.rightWalk(Scenes::full, "gale 5;hang 7 9;tar 7 9;whip 7;damp 5", 9, x -> x.rope(7, 9));
    }

    private void moreMustCome() {
        check.sentence("or the text's length, if more must come. Of");
        bounds.wrongWalk(Scenes::oneRope, "gale^");
        bounds.wrongWalk(Scenes::oneRope, "gale   ^");
        bounds.wrongWalk(Scenes::oneRope, "gale 5;^");
        bounds.wrongWalk(Scenes::oneRope, "gale 5;   ^");
        bounds.wrongLaw(Scenes::oneRope, "bear^");
        bounds.wrongLaw(Scenes::oneRope, "bear 5 if (winter   ^");
        bounds.wrongWalk(Scenes::oneRope, " ".repeat(396) + "gale^");
        bounds.wrongLaw(Scenes::oneRope, "bear 5;" + " ".repeat(393) + "^");
    }

    /** Where each thing could stand the text ends: at 400 bytes, and ahead of bytes that were fed but are cut off. */
    private void endsEverywhere() {
        String[] walks = {"yarn", "yarn 5", "yarn 5 long", "rope", "rope 0", "rope 0 1 2", "order 5", "hang", "hang 0", "whip", "gale",
            "gale 5;"};
        for (String walk : walks) {
            bounds.wrongWalk(Scenes::oneRope, walk + " ".repeat(400 - walk.length()) + "^");
        }
        String[] laws = {"bear", "bear 5;", "bear 5 if", "bear 5 if not", "bear 5 if (", "bear 5 if (winter", "bear 5 if worn",
            "bear 5 if worn +", "bear 5 if worn <", "bear 5 if winter and", "bear 5 if winter or"};
        for (String law : laws) {
            bounds.wrongLaw(Scenes::oneRope, law + " ".repeat(400 - law.length()) + "^");
        }
        String[][] cut = {{"bear 5", ";"}, {"bear 5 if", "(winter)"}, {"bear 5 if worn", "<3"}, {"bear 5 if (winter", ")"},
            {"bear 5 if worn", "+3<4"}, {"bear 5", "5"}, {"bear 5 if winter", "s"}};
        for (String[] text : cut) {
            YearRope x = Scenes.empty();
            Check.feed(x, text[0] + text[1]);
            x.end(text[0].length());
            boolean right = text[0].equals("bear 5") || text[0].endsWith("if winter");
            check.due("'" + text[0] + "', ahead of '" + text[1] + "'", right ? "1" : "throws IllegalArgumentException", x::law);
            check.due("its fault", right ? -1 : text[0].length(), x::fault);
        }
    }

    private void firstOfSeveral() {
        bounds.wrongWalk(Scenes::oneRope, "gale ^101;gale 102;twist");
        bounds.wrongWalk(Scenes::oneRope, "gale 1;hang ^1 1000");
        bounds.wrongWalk(Scenes::oneRope, "yarn ^0 long 201 rot 10 reign 6");
        bounds.wrongWalk(Scenes::oneRope, "rope 0 ^0 0 long 0");
        bounds.wrongWalk(Scenes::oneRope, "rope 0 1 ^7 short 999");
        bounds.wrongLaw(Scenes::oneRope, "bear ^100 if summer");
        bounds.wrongLaw(Scenes::oneRope, "bear 5 if ^summer < 1000");
    }

    private void nothingStays() {
        check.sentence("Of a wrong text nothing stays.");
        String told = "yarn 9 long 9 rot 0 reign 0;rope 0 1 2 long 2;order 9 long 9 pay 9;gale 99;damp 98;tar 0 9;whip 0;hang 0 9";
        bounds.wrongWalk(Scenes::busy, told + "^.");
        bounds.wrongWalk(Scenes::busy, told + ";^");
        bounds.wrongWalk(Scenes::busy, told + ";whip ^1");
        bounds.rightWalk(Scenes::busy, told, 99, x -> x.count(6));
        bounds.wrongLaw(Scenes::busy, "bear 9;fail 8;wear 7^.");
        bounds.wrongLaw(Scenes::busy, "bear 9;fail 8;wear 7;^");
        bounds.wrongLaw(Scenes::busy, "bear 9;fail 8;wear 7 if winter and ^");
        bounds.rightLaw(Scenes::busy, "bear 9;fail 8;wear 7", 3);
        bounds.answers(-1, "LINES where wrong texts alone were told", () -> {
            YearRope x = Scenes.oneRope();
            Check.feed(x, "wear 5;");
            Check.outcome(x::law);
            return x;
        }, x -> x.count(4));
    }
}

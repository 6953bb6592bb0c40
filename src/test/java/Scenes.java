/** Objects as the tests of boundaries begin with them, each made anew. */
final class Scenes {

    /** Three that BEAR 4 + 8 + 1 = 13 together; two of one REIGN. */
    static final String THREE = "yarn 5 long 40 rot 1 reign 0;yarn 8 long 30 rot 0 reign 1;yarn 3 long 50 rot 2 reign 0";

    private static final String STRONG = "yarn 30 long 200 rot 0 reign 5";

    private Scenes() {
    }

    static YearRope empty() {
        return new YearRope();
    }

    static YearRope three() {
        return Check.shed(THREE);
    }

    /** With a rope of all three, as long as can be told with some left. */
    static YearRope oneRope() {
        return Check.shed(THREE + ";rope 0 1 2 long 20");
    }

    /**
     * Four yarns; rope 0 sound, rope 1 BROKEN, rope 2 loaded and whipped; two orders, a law, a gale and damp; one row in
     * the log, an image, two acts to undo, a fault, and an unread text on the tape.
     */
    static YearRope busy() {
        YearRope x = Check.shed(THREE + ";yarn 6 long 10 rot 3 reign 2;rope 0 1 2 long 7;rope 0 1 2 long 9;"
                + "rope 0 1 3 long 5;hang 1 999;hang 2 4;order 10 long 5 pay 7;order 1 long 2 pay 9;gale 20;damp 30");
        Check.law(x, "bear 2 if long > 4 or tar > 0;fail 1 if winter;wear 13");
        x.seasons(1);
        x.image();
        x.whip(2);
        Check.feed(x, "gale 1;;");
        Check.outcome(x::walk);
        Check.feed(x, "damp 61");
        return x;
    }

    /** As much of all as there can be: 10 yarns, 8 ropes that BEAR 90 each, 8 orders. */
    static YearRope full() {
        String five = STRONG + ";" + STRONG + ";" + STRONG + ";" + STRONG + ";" + STRONG;
        String ropes = "rope 0 1 2 long 4;rope 1 2 3 long 4;rope 2 3 4 long 4;rope 3 4 5 long 4";
        String orders = "order 90 long 1 pay 9;order 90 long 2 pay 9;order 90 long 3 pay 9;order 90 long 4 pay 9";
        return Check.shed(five, five, ropes + ";" + ropes, orders + ";" + orders);
    }

    /** Twelve texts of the walk, none of which tells much; an act to undo, and an image of the first ten. */
    static YearRope twelveTexts() {
        YearRope x = oneRope();
        for (int text = 2; text <= 12; text++) {
            Check.walk(x, "gale " + text);
            if (text == 10) {
                x.image();
            }
        }
        x.tar(0);
        return x;
    }

    /** As many alike lines as asked for, ; between them. */
    static String lines(String line, int times) {
        StringBuilder text = new StringBuilder(line);
        for (int i = 1; i < times; i++) {
            text.append(';').append(line);
        }
        return text.toString();
    }
}

import java.util.Random;

/** Texts of THE WALK and THE LAW, drawn, right for the most part, and ways to spoil them. */
final class Texts {

    private Texts() {
    }

    private static String pick(Random d, String... of) {
        return of[d.nextInt(of.length)];
    }

    private static String gap(Random d) {
        return d.nextInt(20) == 0 ? "  " : d.nextInt(20) == 0 ? "" : " ";
    }

    static String yarn(Random d) {
        // few unlike strengths and rots at times, so that many threes are alike for oakum
        int strengths = d.nextInt(3) == 0 ? 3 : 30;
        return "yarn " + (1 + d.nextInt(strengths)) + " long " + d.nextInt(201) + " rot " + d.nextInt(10)
                + " reign " + d.nextInt(6);
    }

    static String walk(Random d) {
        StringBuilder text = new StringBuilder(gap(d));
        int lines = d.nextInt(6);
        for (int i = 0; i < lines; i++) {
            text.append(i == 0 ? "" : ";").append(gap(d)).append(walkLine(d)).append(gap(d));
        }
        return text.toString();
    }

    private static String walkLine(Random d) {
        return switch (d.nextInt(12)) {
            case 0 -> yarn(d);
            case 1, 2 -> "rope " + d.nextInt(4) + gap(d) + d.nextInt(7) + gap(d) + d.nextInt(10)
                    + gap(d) + "long" + gap(d) + (1 + d.nextInt(30));
            case 3, 4, 5, 6 -> "order " + (1 + d.nextInt(d.nextInt(3) == 0 ? 400 : 60)) + " long"
                    + gap(d) + (1 + d.nextInt(d.nextInt(3) == 0 ? 60 : 9)) + " pay " + d.nextInt(d.nextInt(3) == 0 ? 3 : 100);
            case 7 -> "hang " + d.nextInt(5) + " " + d.nextInt(d.nextInt(4) == 0 ? 1000 : 50);
            case 8 -> "tar" + gap(d) + d.nextInt(5) + " " + d.nextInt(10);
            case 9 -> "whip" + gap(d) + d.nextInt(5);
            case 10 -> "gale" + gap(d) + d.nextInt(101);
            default -> "damp " + d.nextInt(101);
        };
    }

    static String law(Random d) {
        StringBuilder text = new StringBuilder(gap(d));
        int lines = d.nextInt(7);
        for (int i = 0; i < lines; i++) {
            text.append(i == 0 ? "" : ";").append(gap(d)).append(pick(d, "bear", "fail", "wear")).append(gap(d))
                    .append(d.nextInt(d.nextInt(3) == 0 ? 100 : 12)).append(gap(d));
            if (d.nextInt(4) > 0) {
                text.append("if ").append(any(d, d.nextInt(6) == 0 ? 7 : 2));
            }
        }
        return text.toString();
    }

    private static String any(Random d, int depth) {
        StringBuilder text = new StringBuilder(atom(d, depth));
        for (int i = d.nextInt(3); i > 0; i--) {
            text.append(' ').append(pick(d, "or", "and")).append(' ').append(atom(d, depth));
        }
        return text.toString();
    }

    private static String atom(Random d, int depth) {
        int kind = d.nextInt(depth > 4 ? 4 : 10);
        if (depth > 0 && kind < 2) {
            return "not " + atom(d, depth - 1);
        }
        if (depth > 0 && kind < 4) {
            return "(" + gap(d) + (depth > 4 ? atom(d, depth - 1) : any(d, depth - 1)) + gap(d) + ")";
        }
        return kind < 6 ? pick(d, "whipped", "winter") : sum(d) + gap(d) + pick(d, "<", ">") + gap(d) + sum(d);
    }

    private static String sum(Random d) {
        StringBuilder text = new StringBuilder(part(d));
        for (int i = d.nextInt(4) / 2; i > 0; i--) {
            text.append(gap(d)).append('+').append(gap(d)).append(part(d));
        }
        return text.toString();
    }

    private static String part(Random d) {
        return d.nextInt(3) == 0 ? "" + d.nextInt(d.nextInt(4) == 0 ? 1000 : 40)
                : pick(d, "weak", "strong", "rot", "reigns", "tar", "worn", "long", "plies", "load");
    }

    /** A text with one thing taken out, put in, or changed, or cut short. */
    static String spoilt(Random d, String text) {
        if (text.isEmpty()) {
            return pick(d, ";", "x", "\u00ff", "\t");
        }
        int at = d.nextInt(text.length());
        return switch (d.nextInt(4)) {
            case 0 -> text.substring(0, at);
            case 1 -> text.substring(0, at) + text.substring(at + 1);
            case 2 -> text.substring(0, at) + (char) d.nextInt(256) + text.substring(at + 1);
            default -> text.substring(0, at) + pick(d, ";", "7", "a", "(", ")", " not ", " if ", "<", "+", " 1000 ", " ")
                    + text.substring(at);
        };
    }
}

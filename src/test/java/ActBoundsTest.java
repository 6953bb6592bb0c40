/** The boundaries of the ACTS and of THE LOG. */
public final class ActBoundsTest {

    private final Check check = new Check("ActBoundsTest");
    private final Bounds bounds = new Bounds(check);

    public static void main(String[] args) {
        ActBoundsTest test = new ActBoundsTest();
        test.laid();
        test.laidInPlaceOfAnother();
        test.tarred();
        test.whipped();
        test.doubled();
        test.cut();
        test.hung();
        test.met();
        test.metOfEight();
        test.picked();
        test.actsThatChangeNothing();
        test.latestSixty();
        test.check.end();
    }

    /** One rope, and a text more. */
    private static YearRope told(String text) {
        YearRope x = Scenes.oneRope();
        Check.walk(x, text);
        return x;
    }

    private static YearRope worn(int wear) {
        YearRope x = Scenes.oneRope();
        Check.law(x, "wear " + wear);
        x.seasons(1);
        return x;
    }

    private void laid() {
        check.sentence("ACTS: a ROPE is LAID of three unlike YARNS (FATHOMS of each are gone from the shed);");
        bounds.answers(0, "30 of 40, 30 and 50", Scenes::three, x -> x.lay(0, 1, 2, 30));
        bounds.noState("31 of 40, 30 and 50", Scenes::three, x -> x.lay(0, 1, 2, 31));
        bounds.noState("31, the shortest first", Scenes::three, x -> x.lay(1, 2, 0, 31));
        bounds.noState("31, the shortest last", Scenes::three, x -> x.lay(0, 2, 1, 31));
        int[] left = {10, 0, 20};
        for (int yarn = 0; yarn < 3; yarn++) {
            int y = yarn;
            bounds.answers(left[y], "what is left of yarn " + y, Bounds.after(Scenes::three, x -> x.lay(2, 0, 1, 30)),
                    x -> x.yarn(y, 1));
        }
        bounds.answers(0, "a yarn of which nothing is left is there still", Bounds.after(Scenes::three, x -> x.lay(2, 0, 1, 30)),
                x -> x.yarn(1, 1));
        bounds.answers(13, "and BEARS", Bounds.after(Scenes::three, x -> x.lay(2, 0, 1, 30)), x -> x.rope(0, 10));
    }

    /** Where a rope was picked that was all that a rope can be, the next one is as new as the first. */
    private void laidInPlaceOfAnother() {
        Bounds.Scene picked = Bounds.after(() -> {
            YearRope x = worn(7);
            Check.walk(x, "tar 0 4;whip 0;hang 0 6");
            return x;
        }, x -> x.twice(0), x -> x.pick(0), x -> x.lay(2, 1, 0, 3));
        Bounds.Scene broken = Bounds.after(() -> told("hang 0 14"), x -> x.seasons(1), x -> x.pick(0), x -> x.lay(2, 1, 0, 3));
        int[] fresh = {2, 1, 0, 3, 0, 0, 0, 1, 0, 0};
        for (int what = 0; what < fresh.length; what++) {
            int w = what;
            bounds.answers(fresh[w], "what " + w + " of one laid in place of another", picked, x -> x.rope(0, w));
            bounds.answers(fresh[w], "what " + w + " of one laid in place of a BROKEN one", broken, x -> x.rope(0, w));
        }
    }

    private void tarred() {
        check.sentence("a ROPE is TARRED (TAR 1 more, 9 at most; WEAR 5 less, 0 at least);");
        bounds.answers(1, "TAR 0", Scenes::oneRope, x -> x.tar(0));
        bounds.answers(9, "TAR 8", () -> told("tar 0 8"), x -> x.tar(0));
        bounds.answers(9, "TAR 9", () -> told("tar 0 9"), x -> x.tar(0));
        int[][] wears = {{0, 0}, {1, 0}, {4, 0}, {5, 0}, {6, 1}, {99, 94}};
        for (int[] wear : wears) {
            bounds.answers(wear[1], "WEAR " + wear[0], Bounds.after(() -> worn(wear[0]), x -> x.tar(0)), x -> x.rope(0, 5));
        }
        bounds.answers(1, "WEAR is less at TAR 9 too", Bounds.after(() -> {
            YearRope x = worn(6);
            Check.walk(x, "tar 0 9");
            return x;
        }, x -> x.tar(0)), x -> x.rope(0, 5));
    }

    private void whipped() {
        check.sentence("WHIPPED; DOUBLED: PLIES twice as many");
        bounds.answers(1, "one that was not", Bounds.after(Scenes::oneRope, x -> x.whip(0)), x -> x.rope(0, 6));
        bounds.answers(1, "one that was", Bounds.after(() -> told("whip 0"), x -> x.whip(0)), x -> x.rope(0, 6));
        bounds.answers(0, "the one beside it", Bounds.after(() -> told("rope 0 1 2 long 3"), x -> x.whip(0)), x -> x.rope(1, 6));
        Bounds.Scene all = Bounds.after(() -> {
            YearRope x = worn(7);
            Check.walk(x, "tar 0 4;hang 0 6");
            return x;
        }, x -> x.whip(0));
        int[] asItWas = {0, 1, 2, 19, 4, 7, 1, 1, 0, 6};
        for (int what = 0; what < asItWas.length; what++) {
            int w = what;
            bounds.answers(asItWas[w], "all else stays, what " + w, all, x -> x.rope(0, w));
        }
    }

    private static YearRope ofLong(int fathoms, int doublings) {
        YearRope x = Check.shed(Scenes.THREE + ";rope 0 1 2 long " + fathoms);
        for (int i = 0; i < doublings; i++) {
            x.twice(0);
        }
        return x;
    }

    private void doubled() {
        check.sentence("DOUBLED: PLIES twice as many (8 at most), LONG the half, rounded down; CUT");
        int[][] halves = {{2, 1}, {3, 1}, {4, 2}, {5, 2}, {29, 14}, {30, 15}};
        for (int[] half : halves) {
            bounds.answers(half[1], "LONG " + half[0], Bounds.after(() -> ofLong(half[0], 0), x -> x.twice(0)),
                    x -> x.rope(0, 3));
        }
        for (int times = 0; times < 3; times++) {
            int t = times;
            bounds.answers(2 << t, "doubled " + t + " times ahead", () -> ofLong(16, t), x -> x.twice(0));
        }
        bounds.noState("8 PLIES, LONG 2", () -> ofLong(16, 3), x -> x.twice(0));
        bounds.noState("4 PLIES, LONG 1", () -> ofLong(7, 2), x -> x.twice(0));
        bounds.noState("1 of the PLIES, LONG 1", () -> ofLong(1, 0), x -> x.twice(0));
    }

    private void cut() {
        check.sentence("CUT: a new ROPE of so much of its LONG, all else alike, but not WHIPPED and without a LOAD; "
                + "the old one is shorter by that;");
        Bounds.Scene marked = () -> {
            YearRope x = worn(7);
            x.twice(0);
            Check.walk(x, "tar 0 4;whip 0;hang 0 6");
            return x;
        };
        int[] old = {0, 1, 2, 2, 4, 7, 1, 2, 0, 6};
        int[] piece = {0, 1, 2, 7, 4, 7, 0, 2, 0, 0};
        for (int what = 0; what < old.length; what++) {
            int w = what;
            bounds.answers(old[w], "the old one's what " + w, Bounds.after(marked, x -> x.cut(0, 7)), x -> x.rope(0, w));
            bounds.answers(piece[w], "the new one's what " + w, Bounds.after(marked, x -> x.cut(0, 7)), x -> x.rope(1, w));
        }
        for (int what = 0; what < 3; what++) {
            int w = what;
            bounds.answers(2 - w, "the new one's YARNS as told " + w,
                    Bounds.after(() -> Check.shed(Scenes.THREE + ";rope 2 1 0 long 9"), x -> x.cut(0, 7)), x -> x.rope(1, w));
        }
        bounds.answers(1, "1 of 20", Bounds.after(Scenes::oneRope, x -> x.cut(0, 1)), x -> x.rope(1, 3));
        bounds.answers(19, "19 are left", Bounds.after(Scenes::oneRope, x -> x.cut(0, 1)), x -> x.rope(0, 3));
        bounds.answers(19, "19 of 20", Bounds.after(Scenes::oneRope, x -> x.cut(0, 19)), x -> x.rope(1, 3));
        bounds.answers(1, "1 is left", Bounds.after(Scenes::oneRope, x -> x.cut(0, 19)), x -> x.rope(0, 3));
        bounds.noArgument("20 of 20", Scenes::oneRope, x -> x.cut(0, 20));
        bounds.noArgument("none of 20", Scenes::oneRope, x -> x.cut(0, 0));
        bounds.answers(10, "no FATHOMS of the shed are gone", Bounds.after(Scenes::oneRope, x -> x.cut(0, 9)), x -> x.yarn(1, 1));
        bounds.answers(21, "SAME: each is the other's", Bounds.after(Scenes::oneRope, x -> x.cut(0, 9)),
                x -> 10 * x.rope(0, 13) + x.rope(1, 13));
    }

    private void hung() {
        check.sentence("a LOAD is HUNG on it, or taken off (0);");
        bounds.answers(0, "1 hung where nothing was", Scenes::oneRope, x -> x.hang(0, 1));
        bounds.answers(1, "0 hung where 1 was", () -> told("hang 0 1"), x -> x.hang(0, 0));
        bounds.answers(0, "nothing hangs then", Bounds.after(() -> told("hang 0 1"), x -> x.hang(0, 0)), x -> x.rope(0, 9));
        bounds.answers(0, "what is taken off did not fall", Bounds.after(() -> told("hang 0 1"), x -> x.hang(0, 0)),
                x -> x.count(9));
        bounds.answers(999, "another in place of 999", () -> told("hang 0 999"), x -> x.hang(0, 998));
        bounds.answers(998, "one LOAD hangs", Bounds.after(() -> told("hang 0 999"), x -> x.hang(0, 998)), x -> x.count(8));
    }

    private void met() {
        check.sentence("an ORDER is MET by a ROPE that is not BROKEN, on which nothing hangs, that BEARS its LOAD and is as "
                + "LONG at least: the LOAD hangs on it, the ORDER is gone (those behind it have a number less), PAY is EARNED;");
        // the rope BEARS 13 and is LONG 20
        bounds.answers(5, "13 and 20", () -> told("order 13 long 20 pay 5"), x -> x.meet(0, 0));
        bounds.noState("LOAD 14", () -> told("order 14 long 20 pay 5"), x -> x.meet(0, 0));
        bounds.noState("LONG 21", () -> told("order 13 long 21 pay 5"), x -> x.meet(0, 0));
        bounds.noState("1 hangs on it", () -> told("order 13 long 20 pay 5;hang 0 1"), x -> x.meet(0, 0));
        bounds.noState("a BROKEN one", Scenes::busy, x -> x.meet(1, 1));
        bounds.answers(0, "PAY 0", () -> told("order 13 long 20 pay 0"), x -> x.meet(0, 0));
        Bounds.Scene orders = () -> told("order 1 long 6 pay 7;order 2 long 5 pay 8;order 3 long 4 pay 9");
        int[][] left = {{0, 2, 3}, {1, 1, 3}, {2, 1, 2}};
        for (int[] row : left) {
            bounds.answers(7 + row[0], "PAY of order " + row[0], orders, x -> x.meet(row[0], 0));
            bounds.answers(7 + row[0], "EARNED by order " + row[0], Bounds.after(orders, x -> x.meet(row[0], 0)),
                    x -> x.count(11));
            bounds.answers(1 + row[0], "its LOAD hangs", Bounds.after(orders, x -> x.meet(row[0], 0)), x -> x.rope(0, 9));
            bounds.answers(row[1], "the first then", Bounds.after(orders, x -> x.meet(row[0], 0)), x -> x.order(0, 0));
            bounds.answers(row[2], "the second then", Bounds.after(orders, x -> x.meet(row[0], 0)), x -> x.order(1, 0));
            bounds.answers("throws IndexOutOfBoundsException", "no third", Bounds.after(orders, x -> x.meet(row[0], 0)),
                    x -> x.order(2, 0));
        }
    }

    private void metOfEight() {
        Bounds.Scene eight = () -> Check.shed(Scenes.THREE + ";rope 0 1 2 long 20", Scenes.lines("order 1 long 1 pay 1", 7)
                + ";order 2 long 2 pay 2");
        for (int order = 0; order < 8; order++) {
            int o = order;
            bounds.answers(o == 7 ? 1 : 2, "the last of eight then, met " + o, Bounds.after(eight, x -> x.meet(o, 0)),
                    x -> x.order(6, 2));
        }
    }

    private void picked() {
        check.sentence("a ROPE is PICKED apart: it is gone (those behind it have a number less);");
        Bounds.Scene ropes = () -> Check.shed(Scenes.THREE + ";rope 2 1 0 long 1;rope 0 1 2 long 2;rope 1 2 0 long 3");
        int[][] left = {{0, 2, 3}, {1, 1, 3}, {2, 1, 2}};
        for (int[] row : left) {
            bounds.answers(2, "how many are left", ropes, x -> x.pick(row[0]));
            bounds.answers(row[1], "the first then", Bounds.after(ropes, x -> x.pick(row[0])), x -> x.rope(0, 3));
            bounds.answers(row[2], "the second then", Bounds.after(ropes, x -> x.pick(row[0])), x -> x.rope(1, 3));
            bounds.answers(row[1] % 2 * 2, "the first one's first YARN then", Bounds.after(ropes, x -> x.pick(row[0])), x -> x.rope(0, 0));
            bounds.answers("throws IndexOutOfBoundsException", "no third", Bounds.after(ropes, x -> x.pick(row[0])),
                    x -> x.rope(2, 3));
            bounds.answers(24, "its FATHOMS are not back", Bounds.after(ropes, x -> x.pick(row[0])), x -> x.yarn(1, 1));
        }
        bounds.answers(0, "the last one", Scenes::oneRope, x -> x.pick(0));
        bounds.answers(2, "a BROKEN one", Scenes::busy, x -> x.pick(1));
        bounds.answers(0, "USES then: it is of the first yarn no more", Bounds.after(Scenes::oneRope, x -> x.pick(0)),
                x -> x.yarn(0, 5));
    }

    private void actsThatChangeNothing() {
        check.sentence("SEASONS (each also if it changes nothing).");
        Bounds.Scene done = () -> told("tar 0 9;whip 0;hang 0 5");
        bounds.answers(9, "TAR 9, WEAR 0", done, x -> x.tar(0));
        bounds.answers(1, "is an act", Bounds.after(done, x -> x.tar(0)), x -> x.count(14));
        bounds.answers(false, "WHIPPED again", done, x -> x.whip(0));
        bounds.answers(1, "is an act", Bounds.after(done, x -> x.whip(0)), x -> x.count(14));
        bounds.answers(5, "the same LOAD", done, x -> x.hang(0, 5));
        bounds.answers(1, "is an act", Bounds.after(done, x -> x.hang(0, 5)), x -> x.count(14));
        bounds.answers(0, "SEASONS that break nothing", done, x -> x.seasons(1));
        bounds.answers(1, "are an act", Bounds.after(done, x -> x.seasons(1)), x -> x.count(14));
        bounds.answers(true, "an act that changed nothing is UNDONE", done, x -> x.hang(0, 5) == 5 && x.undo());
        bounds.answers(0, "and it alone", Bounds.after(done, x -> x.tar(0), x -> x.undo()), x -> x.count(14));
        bounds.leaves("throws IllegalStateException", "a call that throws is none", () -> ofLong(1, 0), x -> x.twice(0));
    }

    /** Each round eight ropes unravel, in one season, and are picked; the last round's are as many as asked for. */
    private static YearRope rounds(int rounds, int lastRound) {
        YearRope x = Check.shed(Scenes.lines("yarn 9 long 200 rot 0 reign 0", 4));
        for (int round = 0; round < rounds; round++) {
            int ropes = round == rounds - 1 ? lastRound : 8;
            for (int rope = 0; rope < ropes; rope++) {
                x.lay(round == 0 ? 3 : 0, 1, 2, 1);
                x.hang(rope, round + 1);
            }
            x.seasons(1);
            for (int rope = 0; rope < ropes; rope++) {
                x.pick(0);
            }
        }
        return x;
    }

    private void latestSixty() {
        check.sentence("THE LOG: the latest 60 that BROKE: SEASON, three YARNS, the LOAD that fell.");
        bounds.answers(59, "rows of 59", () -> rounds(8, 3), x -> x.count(13));
        bounds.answers(60, "rows of 60", () -> rounds(8, 4), x -> x.count(13));
        bounds.answers(60, "rows of 61", () -> rounds(8, 5), x -> x.count(13));
        bounds.answers(61, "BROKEN in all", () -> rounds(8, 5), x -> x.count(10));
        bounds.answers(-1, "row 59 of 59", () -> rounds(8, 3), x -> x.log(59, 0));
        bounds.answers(0, "row 59 of 60", () -> rounds(8, 4), x -> x.log(59, 0));
        bounds.answers(-1, "row 60 of 60", () -> rounds(8, 4), x -> x.log(60, 0));
        bounds.answers(-1, "row 60 of 61", () -> rounds(8, 5), x -> x.log(60, 0));
        bounds.answers(8, "yarn 3 is in the first eight of 60", () -> rounds(8, 4), x -> x.led(3, false));
        bounds.answers(7, "one of 61 is forgotten", () -> rounds(8, 5), x -> x.led(3, false));
        bounds.answers(7, "its LOAD is led no more", () -> rounds(8, 5), x -> x.led(3, true));
        bounds.answers(8 * 28 + 8 * 5, "but fell", () -> rounds(8, 5), x -> x.count(9));
        bounds.answers(7, "the latest one's SEASON", () -> rounds(8, 5), x -> x.log(0, 0));
        bounds.answers(8, "its LOAD", () -> rounds(8, 5), x -> x.log(0, 4));
        bounds.answers(7, "the LOAD of the one of the round ahead", () -> rounds(8, 5), x -> x.log(5, 4));
        YearRope x = Check.shed(Scenes.THREE + ";rope 2 0 1 long 9;hang 0 77");
        x.seasons(1);
        int[] row = {0, 2, 0, 1, 77};
        for (int what = 0; what < 5; what++) {
            int w = what;
            check.due("a row's what " + w, row[w], () -> x.log(0, w));
        }
    }
}

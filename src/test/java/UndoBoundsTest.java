/** The boundaries of what can be UNDONE, and of THE IMAGE. */
public final class UndoBoundsTest {

    private final Check check = new Check("UndoBoundsTest");
    private final Bounds bounds = new Bounds(check);

    public static void main(String[] args) {
        UndoBoundsTest test = new UndoBoundsTest();
        test.twelveActs();
        test.allIsAsAhead();
        test.whatIsNotUndone();
        test.whatForgets();
        test.whatDoesNotForget();
        test.oneImage();
        test.imageOfAll();
        test.whatTheImageDoesNotHold();
        test.check.end();
    }

    /** A rope on which 1, 2 and so on were hung. */
    private static YearRope hung(int acts) {
        YearRope x = Scenes.oneRope();
        for (int i = 1; i <= acts; i++) {
            x.hang(0, i);
        }
        return x;
    }

    private static YearRope undone(YearRope x, int times) {
        for (int i = 0; i < times; i++) {
            x.undo();
        }
        return x;
    }

    private void twelveActs() {
        check.sentence("UNDONE: the latest ACT not undone yet (12 are remembered; SEASONS of one call are one):");
        int[][] remembered = {{0, 0}, {1, 1}, {11, 11}, {12, 12}, {13, 12}, {24, 12}, {25, 12}};
        for (int[] row : remembered) {
            bounds.answers(row[1], "how many of " + row[0], () -> hung(row[0]), x -> x.count(14));
            bounds.answers(row[0] - row[1], "as far back as they go, of " + row[0], () -> undone(hung(row[0]), row[1]),
                    x -> x.rope(0, 9));
            bounds.leaves(false, "no more of " + row[0], () -> undone(hung(row[0]), row[1]), YearRope::undo);
        }
        bounds.answers(true, "the twelfth of 12", () -> undone(hung(12), 11), YearRope::undo);
        bounds.answers(11, "one of 12 is undone", () -> undone(hung(12), 1), x -> x.rope(0, 9));
        bounds.answers(11, "11 are left", () -> undone(hung(12), 1), x -> x.count(14));
        bounds.answers(12, "another in its place", Bounds.after(() -> undone(hung(12), 1), x -> x.tar(0)), x -> x.count(14));
        bounds.answers(3, "five of 13 undone, five more, ten undone", () -> {
            YearRope x = undone(hung(13), 5);
            for (int i = 0; i < 5; i++) {
                x.hang(0, 50 + i);
            }
            return undone(x, 10);
        }, x -> x.rope(0, 9));
        bounds.answers(1, "SEASONS of one call", Bounds.after(Scenes::oneRope, x -> x.seasons(50)), x -> x.count(14));
        bounds.answers(0, "are undone at once", Bounds.after(Scenes::oneRope, x -> x.seasons(50)), x -> undone(x, 1).count(5));
        bounds.answers(1, "of two calls one is left", Bounds.after(Scenes::oneRope, x -> x.seasons(1), x -> x.seasons(1)),
                x -> undone(x, 1).count(5));
    }

    private void allIsAsAhead() {
        check.sentence("all is as ahead of it (but for the TAPE, fault(), THE IMAGE).");
        Object[][] acts = {
            {"lay", (Bounds.Call) x -> x.lay(2, 0, 1, 4)}, {"tar", (Bounds.Call) x -> x.tar(0)},
            {"whip", (Bounds.Call) x -> x.whip(0)}, {"twice", (Bounds.Call) x -> x.twice(0)},
            {"cut", (Bounds.Call) x -> x.cut(2, 1)}, {"hang", (Bounds.Call) x -> x.hang(0, 5)},
            {"meet", (Bounds.Call) x -> x.meet(1, 0)}, {"pick", (Bounds.Call) x -> x.pick(1)},
            {"seasons", (Bounds.Call) x -> x.seasons(50)}};
        for (Object[] act : acts) {
            Bounds.Call call = (Bounds.Call) act[1];
            bounds.leaves(true, act[0] + " undone", Scenes::busy,
                    x -> !Check.outcome(() -> call.of(x)).startsWith("throws") && x.undo());
        }
        bounds.answers(5, "SEED, told behind the act, is as ahead of it", () -> {
            YearRope x = Scenes.oneRope();
            x.seed(5);
            x.tar(0);
            x.seed(6);
            return undone(x, 1);
        }, x -> x.seed(0));
    }

    private void whatIsNotUndone() {
        // the TAPE, fault() and THE IMAGE of the scene came behind its acts
        bounds.answers("fault 7, tape 7", "the TAPE and fault()", () -> undone(Scenes.busy(), 2), Picture::tape);
        bounds.answers(61, "what stands on the TAPE", Bounds.after(() -> undone(Scenes.busy(), 2), YearRope::walk),
                x -> x.count(7));
        bounds.answers(true, "THE IMAGE", () -> undone(Scenes.busy(), 2), YearRope::back);
        bounds.answers(1, "as it was kept, behind the first act", Bounds.after(() -> undone(Scenes.busy(), 2), YearRope::back),
                x -> x.count(5));
        bounds.answers(3, "an IMAGE kept behind the act that is undone", Bounds.after(() -> {
            YearRope x = hung(3);
            x.image();
            return undone(x, 2);
        }, YearRope::back), x -> x.rope(0, 9));
    }

    private void whatForgets() {
        check.sentence("A text, going back: none are remembered.");
        Object[][] calls = {
            {"a text of THE WALK", (Bounds.Call) x -> Check.walk(x, "gale 5")},
            {"an empty one", (Bounds.Call) x -> Check.walk(x, "")},
            {"THE LAW", (Bounds.Call) x -> Check.law(x, "wear 5")},
            {"an empty one", (Bounds.Call) x -> Check.law(x, "")},
            {"going back", (Bounds.Call) x -> x.back()}};
        for (Object[] call : calls) {
            Bounds.Scene behind = () -> {
                YearRope x = Scenes.busy();
                x.end(0);
                ((Bounds.Call) call[1]).of(x);
                return x;
            };
            bounds.answers(0, call[0] + ": how many", behind, x -> x.count(14));
            bounds.leaves(false, call[0] + ": undone", behind, YearRope::undo);
            bounds.answers(1, call[0] + ": the next is remembered", Bounds.after(behind, x -> x.tar(0)), x -> x.count(14));
        }
    }

    private void whatDoesNotForget() {
        Object[][] calls = {
            {"a wrong text of THE WALK", (Bounds.Call) x -> Check.walk(x, "gale 5;")},
            {"a wrong LAW", (Bounds.Call) x -> Check.law(x, "wear 5;")},
            {"a text beyond twelve", (Bounds.Call) x -> Check.walk(x, "gale 5")},
            {"SEED", (Bounds.Call) x -> x.seed(9)},
            {"a TRIAL", (Bounds.Call) x -> x.trial(40, true)},
            {"a call that throws", (Bounds.Call) x -> x.pick(1)}};
        for (Object[] call : calls) {
            bounds.answers(1, call[0] + ": how many", Bounds.after(Scenes::twelveTexts,
                    x -> Check.outcome(() -> ((Bounds.Call) call[1]).of(x))), x -> x.count(14));
        }
        bounds.answers(1, "an IMAGE that is kept", Scenes::twelveTexts, x -> kept(x).count(14));
        bounds.answers(3, "no IMAGE to go back to", Bounds.after(() -> hung(3), YearRope::back), x -> x.count(14));
    }

    private static YearRope kept(YearRope x) {
        x.image();
        return x;
    }

    private void oneImage() {
        check.sentence("THE IMAGE (one) of all may be kept, and gone back to");
        bounds.leaves(false, "none was kept", () -> hung(2), YearRope::back);
        bounds.answers(2, "the first", Bounds.after(() -> kept(hung(2)), x -> x.hang(0, 9), YearRope::back), x -> x.rope(0, 9));
        bounds.answers(9, "another in its place", () -> kept(hung(2)), x -> {
            x.hang(0, 9);
            x.image();
            x.hang(0, 10);
            x.back();
            return x.rope(0, 9);
        });
        bounds.answers(2, "gone back to twice", () -> kept(hung(2)), x -> {
            x.hang(0, 9);
            x.back();
            x.hang(0, 10);
            x.back();
            return x.rope(0, 9);
        });
        bounds.answers(0, "of an empty shed", () -> kept(Scenes.empty()), x -> {
            Check.walk(x, Scenes.THREE + ";rope 0 1 2 long 1");
            x.back();
            return x.count(0) + x.count(1) + x.count(3);
        });
    }

    private void imageOfAll() {
        Bounds.Scene kept = () -> kept(Scenes.busy());
        Bounds.Call[] between = {x -> x.seasons(50), x -> x.pick(0), x -> x.lay(0, 1, 2, 3), x -> x.meet(1, 2), x -> x.seed(99),
            x -> readThere(x, "yarn 9 long 9 rot 9 reign 1;order 9 long 9 pay 9;gale 9;damp 9", true),
            x -> readThere(x, "bear 9;wear 9 if winter", false), x -> readThere(x, "", false), YearRope::undo};
        for (int i = 0; i < between.length; i++) {
            Bounds.Call call = between[i];
            bounds.answers(Picture.state(Scenes.busy()), "all is as it was kept ahead of call " + i, kept, x -> {
                Check.outcome(() -> call.of(x));
                x.back();
                return Picture.state(x);
            });
        }
        for (String yarn : new String[] {"yarn 30 long 200 rot 0 reign 5", "yarn 1 long 200 rot 0 reign 5"}) {
            Bounds.Scene more = Bounds.after(() -> kept(Scenes.busy()), x -> readThere(x, yarn + ";rope 0 2 4 long 3;"
                    + "rope 2 0 4 long 2;order 1 long 1 pay 99;hang 3 9", true), YearRope::back, x -> x.end(0));
            bounds.answers(Picture.asked(Bounds.after(Scenes::busy, x -> x.end(0)).make()), "what came since is in no answer",
                    more, Picture::asked);
        }
        Bounds.Scene lawless = Bounds.after(() -> kept(Scenes.oneRope()), x -> Check.law(x, "wear 5;bear 5"), YearRope::back);
        bounds.answers(-1, "no LAW: its LINES", lawless, x -> x.count(4));
        bounds.answers(1, "no LAW: WEARS by", lawless, x -> x.rope(0, 11));
        bounds.answers(12, "texts of the walk: two more can come", Scenes::twelveTexts, x -> {
            x.back();
            Check.walk(x, "");
            return Check.walk(x, "");
        });
    }

    private static Object readThere(YearRope x, String text, boolean walk) {
        x.end(0);
        return walk ? Check.walk(x, text) : Check.law(x, text);
    }

    private void whatTheImageDoesNotHold() {
        check.sentence("(but for the TAPE, fault() and THE IMAGE itself).");
        Bounds.Scene behind = () -> {
            YearRope x = kept(hung(2));
            Check.feed(x, "gale 77;");
            Check.outcome(x::walk);
            Check.feed(x, "gale 78");
            x.back();
            return x;
        };
        bounds.answers("fault 8, tape 7", "the TAPE and fault()", behind, Picture::tape);
        bounds.answers(78, "what stands on the TAPE", Bounds.after(behind, YearRope::walk), x -> x.count(6));
        bounds.answers(true, "THE IMAGE is kept still", behind, YearRope::back);
        bounds.answers(0, "the acts", behind, x -> x.count(14));
    }
}

/** Which of several exceptions is thrown, and that a call that throws, or only asks, changes nothing. */
public final class RefusalBoundsTest {

    private static final String INDEX = "IndexOutOfBoundsException";
    private static final String ARGUMENT = "IllegalArgumentException";
    private static final String STATE = "IllegalStateException";
    private static final String SUPPORT = "UnsupportedOperationException";
    private static final String ELEMENT = "NoSuchElementException";

    private final Check check = new Check("RefusalBoundsTest");
    private final Bounds bounds = new Bounds(check);

    public static void main(String[] args) {
        RefusalBoundsTest test = new RefusalBoundsTest();
        test.firstOfSeveral();
        test.firstOfSeveralTexts();
        test.refusedTexts();
        test.refusedCalls();
        test.whatEachExceptionTells();
        test.asking();
        test.setsOfNone();
        test.check.end();
    }

    /** Eight ropes, the first BROKEN and LONG 9, the second LONG 8, and yarns that have 10, 0, 16 and 10 left. */
    private static YearRope eight() {
        YearRope x = Check.shed("yarn 5 long 34 rot 1 reign 0;yarn 8 long 24 rot 0 reign 1;yarn 3 long 40 rot 2 reign 0;"
                + "yarn 3 long 10 rot 2 reign 0;rope 0 1 2 long 9;rope 0 1 2 long 9;hang 0 999",
                Scenes.lines("rope 0 1 2 long 1", 6));
        x.seasons(1);
        return x;
    }

    private void firstOfSeveral() {
        check.sentence("Of several exceptions the one told first is thrown;");
        bounds.refuses(INDEX, "yarn: no such one, another what", Scenes::busy, x -> x.yarn(4, 6));
        bounds.refuses(INDEX, "rope: no such one, another what", Scenes::busy, x -> x.rope(3, 14));
        bounds.refuses(INDEX, "order: no such one, another what", Scenes::busy, x -> x.order(2, 3));
        bounds.refuses(INDEX, "would: no such one, another what", Scenes::busy, x -> x.would(3, 3));
        for (int place = 0; place < 3; place++) {
            int[] y = {1, 1, 1};
            y[place] = 4;
            bounds.refuses(INDEX, "bears: none, two are one, LONG is none", Scenes::busy, x -> x.bears(y[0], y[1], y[2], 0));
            bounds.refuses(INDEX, "lay: none, two are one, FATHOMS are none", RefusalBoundsTest::eight,
                    x -> x.lay(y[0], y[1], y[2], 0));
            bounds.refuses(INDEX, "lay: none, two are one, not so many, there are 8", RefusalBoundsTest::eight,
                    x -> x.lay(y[0], y[1], y[2], 200));
        }
        bounds.refuses(ARGUMENT, "lay: two are one, not so many, there are 8", RefusalBoundsTest::eight,
                x -> x.lay(1, 2, 1, 200));
        bounds.refuses(ARGUMENT, "lay: FATHOMS are none, not so many, there are 8", RefusalBoundsTest::eight,
                x -> x.lay(0, 1, 2, 201));
        bounds.refuses(STATE, "lay: not so many, there are 8", RefusalBoundsTest::eight, x -> x.lay(0, 2, 3, 11));
        bounds.refuses(SUPPORT, "lay: there are 8", RefusalBoundsTest::eight, x -> x.lay(0, 2, 3, 10));
        bounds.refuses(INDEX, "cut: no such one, n is none, there are 8", RefusalBoundsTest::eight, x -> x.cut(8, 0));
        bounds.refuses(ARGUMENT, "cut: n is none, BROKEN, there are 8", RefusalBoundsTest::eight, x -> x.cut(0, 9));
        bounds.refuses(STATE, "cut: BROKEN, there are 8", RefusalBoundsTest::eight, x -> x.cut(0, 8));
        bounds.refuses(ARGUMENT, "cut: n is none, there are 8", RefusalBoundsTest::eight, x -> x.cut(1, 8));
        bounds.refuses(SUPPORT, "cut: there are 8", RefusalBoundsTest::eight, x -> x.cut(1, 7));
        bounds.refuses(INDEX, "hang: no such one, LOAD is none", Scenes::busy, x -> x.hang(3, 1000));
        bounds.refuses(ARGUMENT, "hang: LOAD is none, BROKEN", Scenes::busy, x -> x.hang(1, 1000));
        bounds.refuses(STATE, "hang: BROKEN", Scenes::busy, x -> x.hang(1, 999));
        bounds.refuses(INDEX, "meet: no such ORDER, BROKEN", Scenes::busy, x -> x.meet(2, 1));
        bounds.refuses(INDEX, "meet: no such ROPE", Scenes::busy, x -> x.meet(0, 3));
        bounds.refuses(STATE, "meet: BROKEN", Scenes::busy, x -> x.meet(1, 1));
        bounds.refuses(INDEX, "share: none, both are one, LOAD is none", Scenes::busy, x -> x.share(3, 3, -1));
        bounds.refuses(INDEX, "share: no second one, LOAD is none", Scenes::busy, x -> x.share(0, 3, -1));
        bounds.refuses(INDEX, "share: no first one, LOAD is none", Scenes::busy, x -> x.share(3, 0, -1));
        bounds.refuses(INDEX, "shared: no first one, LOAD is none", Scenes::busy, x -> x.shared(3, 0, -1));
        bounds.refuses(INDEX, "shared: none, both are one, LOAD is none", Scenes::busy, x -> x.shared(3, 3, -1));
        bounds.refuses(INDEX, "shared: no second one, LOAD is none", Scenes::busy, x -> x.shared(0, 3, 10000));
    }

    private void firstOfSeveralTexts() {
        bounds.wrongWalk(Scenes::twelveTexts, "gale 5^x");
        bounds.refusesText(SUPPORT, Scenes::twelveTexts, "gale 5", YearRope::walk);
    }

    private void refusedTexts() {
        check.sentence("a call that throws changes nothing but the TAPE, where it is used up, and fault(), where a text is read (also "
                + "by one that is refused).");
        String told = "yarn 1 long 9 rot 1 reign 1;order 1 long 1 pay 1;gale 1;damp 1;whip 2;tar 2 3;hang 2 0";
        bounds.wrongWalk(Scenes::busy, told + ";^x");
        bounds.wrongLaw(Scenes::busy, "bear 9;fail 9 if winter;wear 9;^x");
        bounds.refusesText(SUPPORT, Scenes::twelveTexts, "yarn 1 long 9 rot 1 reign 1;gale 1;tar 0 3", YearRope::walk);
        bounds.answers("fault -1, tape 0", "a refused text that is right, behind a wrong one", () -> {
            YearRope x = Scenes.twelveTexts();
            Check.feed(x, "wear");
            Check.outcome(x::law);
            Check.feed(x, "gale 5");
            Check.outcome(x::walk);
            return x;
        }, Picture::tape);
    }

    /** Each leaves even the unread text on the TAPE and the fault of the text before. */
    private void refusedCalls() {
        bounds.refuses(ARGUMENT, "bears", Scenes::busy, x -> x.bears(0, 0, 1, 5));
        bounds.refuses(STATE, "lay", Scenes::busy, x -> x.lay(0, 1, 3, 11));
        bounds.refuses(STATE, "tar", Scenes::busy, x -> x.tar(1));
        bounds.refuses(STATE, "whip", Scenes::busy, x -> x.whip(1));
        bounds.refuses(STATE, "twice", Scenes::busy, x -> x.twice(1));
        bounds.refuses(STATE, "cut", Scenes::busy, x -> x.cut(1, 1));
        bounds.refuses(STATE, "hang", Scenes::busy, x -> x.hang(1, 1));
        bounds.refuses(STATE, "meet", Scenes::busy, x -> x.meet(0, 2));
        bounds.refuses(INDEX, "pick", Scenes::busy, x -> x.pick(3));
        bounds.refuses(ARGUMENT, "seasons", Scenes::busy, x -> x.seasons(51));
        bounds.refuses(ARGUMENT, "best", Scenes::busy, x -> x.best(201));
        bounds.refuses(INDEX, "cheapest", Scenes::busy, x -> x.cheapest(2));
        bounds.refuses(INDEX, "cuts", Scenes::busy, x -> x.cuts(3, true));
        bounds.refuses(ARGUMENT, "walks", Scenes::busy, x -> x.walks(6));
        bounds.refuses(ARGUMENT, "share", Scenes::busy, x -> x.share(0, 0, 5));
        bounds.refuses(ARGUMENT, "shared", Scenes::busy, x -> x.shared(0, 2, 10000));
        bounds.refuses(ELEMENT, "oakum", Scenes::busy, x -> x.oakum(16, 3, 3));
        bounds.refuses(INDEX, "holds", Scenes::busy, x -> x.holds(3, true));
        bounds.refuses(ELEMENT, "would", Scenes::busy, x -> x.would(1, 3));
        bounds.refuses(ARGUMENT, "buys", Scenes::busy, x -> x.buys(10000));
        bounds.refuses(ARGUMENT, "lasts", Scenes::busy, x -> x.lasts(201));
        bounds.refuses(ARGUMENT, "trial", Scenes::busy, x -> x.trial(41, true));
        bounds.refuses(ARGUMENT, "span", Scenes::busy, x -> x.span(41, true));
        bounds.refuses(INDEX, "led", Scenes::busy, x -> x.led(4, true));
        bounds.refuses(ELEMENT, "log", Scenes::busy, x -> x.log(0, 5));
    }

    private void whatEachExceptionTells() {
        check.sentence("IndexOutOfBoundsException: there is no such YARN, ROPE, ORDER. IllegalArgumentException: a number is none, or "
                + "two are one. IllegalStateException: it cannot be.");
        int[] nones = {-1, Integer.MIN_VALUE, Integer.MAX_VALUE};
        for (int none : nones) {
            bounds.noIndex("YARN " + none, Scenes::busy, x -> x.bears(none, 1, 2, 5));
            bounds.noIndex("YARN " + none, Scenes::busy, x -> x.lay(0, none, 2, 5));
            bounds.noIndex("ROPE " + none, Scenes::busy, x -> x.tar(none));
            bounds.noIndex("ORDER " + none, Scenes::busy, x -> x.meet(none, 0));
            bounds.noArgument("LONG " + none, Scenes::busy, x -> x.bears(0, 1, 2, none));
            bounds.noArgument("LOAD " + none, Scenes::busy, x -> x.hang(0, none));
        }
        bounds.noArgument("two are one", Scenes::busy, x -> x.share(2, 2, 5));
        bounds.noState("a fourth yarn has 10 less 5 left", Scenes::busy, x -> x.lay(0, 1, 3, 6));
        bounds.answers(3, "5 it has", Scenes::busy, x -> x.lay(0, 1, 3, 5));
    }

    /** What asks alone, or answers false, leaves all as it is. */
    private void asking() {
        Bounds.Call[] asks = Picture.ASKS;
        for (int i = 0; i < asks.length; i++) {
            Bounds.Call ask = asks[i];
            String answer = Check.outcome(() -> ask.of(Scenes.busy()));
            bounds.leaves(answer, "ask " + i, Scenes::busy, ask);
            check.due("ask " + i + " throws", false, () -> answer.startsWith("throws"));
        }
        check.due("an ask of all there can be throws", false, () -> Picture.asked(Scenes.full()).contains("throws"));
        YearRope x = Scenes.busy();
        for (int i = 0; i < 2 * asks.length; i++) {
            // all in a row, and then once more the other way round
            Bounds.Call ask = asks[i < asks.length ? i : 2 * asks.length - 1 - i];
            check.due("ask " + i + ", behind others", Check.outcome(() -> ask.of(Scenes.busy())), () -> ask.of(x));
        }
    }

    private void setsOfNone() {
        check.sentence("Sets are bits; of none they count for nothing.");
        Object[][] sets = {{"CAN by ROPES", (Bounds.Call) x -> x.can(false)}, {"CAN by YARNS", (Bounds.Call) x -> x.can(true)},
            {"MOST", (Bounds.Call) x -> x.most(false)}, {"PAY of MOST", (Bounds.Call) x -> x.most(true)},
            {"SURE", (Bounds.Call) x -> x.oakum(9, 0, 1)}, {"FEWEST", (Bounds.Call) x -> x.fewest()},
            {"BUYS", (Bounds.Call) x -> x.buys(9999)}, {"SKIPS", (Bounds.Call) x -> x.skips()},
            {"UNWHIPPED", (Bounds.Call) x -> x.loose()}, {"TRIAL", (Bounds.Call) x -> x.trial(40, false)},
            {"BROKEN", (Bounds.Call) x -> x.count(12)}};
        for (Object[] set : sets) {
            bounds.leaves(0, set[0] + " of none", Scenes::empty, (Bounds.Call) set[1]);
        }
        bounds.answers(0, "CUTS of none", Scenes::oneRope, x -> x.cuts(0, false));
        bounds.answers(0, "SAME of none", Scenes::oneRope, x -> x.rope(0, 13));
        bounds.answers(0, "USES of none", Scenes::three, x -> x.yarn(0, 5));
        bounds.answers(255, "all eight", Scenes::full, YearRope::loose);
        bounds.answers(4 | 8 | 64 | 128, "four of eight, the last among them", Scenes::full, x -> x.yarn(4, 5));
    }
}

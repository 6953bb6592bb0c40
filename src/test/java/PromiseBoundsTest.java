/** What each promise refuses, and what it answers when there is nothing to answer with. */
public final class PromiseBoundsTest {

    private static final int BLANKS = 0x20202020;

    private final Check check = new Check("PromiseBoundsTest");
    private final Bounds bounds = new Bounds(check);

    public static void main(String[] args) {
        PromiseBoundsTest test = new PromiseBoundsTest();
        test.newObject();
        test.tape();
        test.texts();
        test.things();
        test.laying();
        test.changing();
        test.cutting();
        test.hanging();
        test.seasons();
        test.choosing();
        test.orders();
        test.sharing();
        test.foretelling();
        test.setsOfRopes();
        test.trials();
        test.logAndSeed();
        test.undoing();
        test.counting();
        test.lastCall();
        test.check.end();
    }

    private void newObject() {
        check.sentence("`YearRope()`: An empty shed.");
        int[] counts = {0, 0, 0, 0, -1, 0, 0, 0, 0, 0, 0, 0, 0, 0, 0};
        for (int what = 0; what < counts.length; what++) {
            int w = what;
            bounds.leaves(counts[w], "count " + w, Scenes::empty, x -> x.count(w));
        }
        bounds.answers("fault -1, tape 0", "fault() and the TAPE", Scenes::empty, Picture::tape);
        bounds.answers(1, "SEED", Scenes::empty, x -> x.seed(0));
        bounds.answers(false, "an IMAGE", Scenes::empty, YearRope::back);
        check.due("one object is not another", 0, () -> {
            YearRope x = Scenes.empty();
            YearRope y = Scenes.oneRope();
            return x.count(0) + y.count(0) - 3;
        });
    }

    /** So many bytes, blanks but for the last of what was fed. */
    private static YearRope taped(int bytes) {
        YearRope x = new YearRope();
        for (int fed = 0; fed < bytes; fed += 20) {
            x.feed(BLANKS, BLANKS, BLANKS, BLANKS, BLANKS);
        }
        x.end(bytes);
        return x;
    }

    private void tape() {
        check.sentence("Twenty bytes come behind the TAPE, of each number the highest first: how many it has; NONE, and none come, if "
                + "it would have more than 400.");
        int[][] fed = {{0, 20}, {1, 21}, {360, 380}, {379, 399}, {380, 400}, {381, -1}, {399, -1}, {400, -1}};
        for (int[] row : fed) {
            bounds.answers(row[1], "behind " + row[0], () -> taped(row[0]), x -> x.feed(1, 2, 3, 4, 5));
        }
        for (int bytes : new int[] {381, 399, 400}) {
            bounds.leaves(-1, "none come behind " + bytes, () -> taped(bytes), x -> x.feed(1, 2, 3, 4, 5));
            bounds.answers(bytes, "how many stay", () -> taped(bytes),
                    x -> x.feed(1, 2, 3, 4, 5) + (x.end(bytes + 1) ? 9 : 1) + (x.end(bytes) ? bytes : 0));
            bounds.answers(1, "what stays is blank", Bounds.after(() -> taped(bytes), x -> x.feed(1, 2, 3, 4, 5)),
                    YearRope::walk);
        }
        bounds.answers(17, "the highest first, and then the next: 'gale 12;damp 17'", Bounds.after(Scenes::empty,
                x -> x.feed(0x67616C65, 0x2031323B, 0x64616D70, 0x20313720, BLANKS), YearRope::walk), x -> x.count(7));
        for (int place = 0; place < 20; place++) {
            int p = place;
            bounds.answers(place, "the first wrong byte at " + place, Bounds.after(Scenes::empty,
                    x -> x.feed(at(p, 0), at(p, 1), at(p, 2), at(p, 3), at(p, 4)), x -> Check.outcome(x::walk)), YearRope::fault);
        }
        check.sentence("The TAPE has its first n bytes alone: true; false, and nothing happens, if it has fewer, or n is below 0.");
        bounds.leaves(true, "as many as it has", Scenes::busy, x -> x.end(7));
        bounds.leaves(false, "1 more", Scenes::busy, x -> x.end(8));
        bounds.leaves(false, "many more", Scenes::busy, x -> x.end(Integer.MAX_VALUE));
        bounds.leaves(false, "-1", Scenes::busy, x -> x.end(-1));
        bounds.leaves(false, "far below 0", Scenes::busy, x -> x.end(Integer.MIN_VALUE));
        bounds.answers("fault 7, tape 6", "1 less", Bounds.after(Scenes::busy, x -> x.end(6)), Picture::tape);
        bounds.answers(6, "the first ones: 'damp 6'", Bounds.after(Scenes::busy, x -> x.end(6), YearRope::walk), x -> x.count(7));
        bounds.answers("fault 7, tape 0", "none", Bounds.after(Scenes::busy, x -> x.end(0)), Picture::tape);
        bounds.leaves(true, "none of none", Scenes::empty, x -> x.end(0));
        bounds.leaves(false, "1 of none", Scenes::empty, x -> x.end(1));
        bounds.answers(true, "all 400", () -> taped(400), x -> x.end(400));
        bounds.leaves(false, "401 of 400", () -> taped(400), x -> x.end(401));
    }

    /** A number of four blanks, but for the byte 255 if its place is in this number. */
    private static int at(int place, int number) {
        return place / 4 == number ? BLANKS | 255 << 24 - 8 * (place % 4) : BLANKS;
    }

    private void texts() {
        check.sentence("Uses the TAPE up: a text of THE WALK: how many texts there are. IllegalArgumentException: it is wrong; "
                + "UnsupportedOperationException: there are 12.");
        bounds.answers("fault -1, tape 0", "a right one", Bounds.after(Scenes::busy, YearRope::walk), Picture::tape);
        bounds.answers(2, "the second", Scenes::busy, YearRope::walk);
        bounds.rightWalk(Scenes::oneRope, "gale 5", 2, x -> x.count(3));
        bounds.wrongWalk(Scenes::oneRope, "gale 5^x");
        bounds.refusesText("UnsupportedOperationException", Scenes::twelveTexts, "gale 5", YearRope::walk);
        bounds.wrongWalk(Scenes::twelveTexts, "gale 5^x");
        check.sentence("Uses the TAPE up: THE LAW: how many LINES. IllegalArgumentException: the text is wrong.");
        bounds.answers("fault 0, tape 0", "a wrong one", Bounds.after(Scenes::busy, x -> Check.outcome(x::law)), Picture::tape);
        bounds.answers("fault -1, tape 0", "a right one", Bounds.after(Scenes::oneRope, x -> Check.law(x, "bear 5")),
                Picture::tape);
        bounds.rightLaw(Scenes::twelveTexts, "bear 5;bear 5", 2);
        bounds.rightLaw(Scenes::oneRope, "", 0);
        bounds.wrongLaw(Scenes::oneRope, "bear 5;^");
        check.sentence("The first wrong byte of the latest text that was read; NONE without one, and ahead of any.");
        bounds.leaves(-1, "ahead of any", Scenes::empty, YearRope::fault);
        bounds.leaves(7, "of a wrong one", Scenes::busy, YearRope::fault);
        bounds.answers(-1, "of a right one behind it", Bounds.after(Scenes::busy, YearRope::walk), YearRope::fault);
        bounds.answers(-1, "of a LAW behind it", Bounds.after(Scenes::busy, x -> x.end(0), YearRope::law), YearRope::fault);
        bounds.answers(0, "of a wrong LAW behind it", Bounds.after(Scenes::busy, x -> Check.outcome(x::law)), YearRope::fault);
        bounds.answers(-1, "of one that is refused", Bounds.after(Scenes::twelveTexts, x -> Check.outcome(x::walk)),
                YearRope::fault);
    }

    private void things() {
        check.sentence("Of a YARN what 0 STRENGTH, 1 LENGTH, 2 ROT, 3 REIGN, 4 PRICE, 5 USES, as bits. NoSuchElementException: "
                + "another what.");
        bounds.indices("a YARN", Scenes::busy, 4, (x, n) -> x.yarn(n, 0));
        bounds.whats("of a YARN", Scenes::busy, 5, (x, n) -> x.yarn(0, n));
        check.sentence("Of a ROPE what 0, 1, 2 its YARNS (as told), 3 LONG, 4 TAR, 5 WEAR, 6 1 if WHIPPED, 7 PLIES, 8 1 if BROKEN, 9 "
                + "LOAD, 10 BEARS, 11 WEARS by, 12 PRICE, 13 SAME, as bits. NoSuchElementException: another what.");
        bounds.indices("a ROPE", Scenes::busy, 3, (x, n) -> x.rope(n, 0));
        bounds.whats("of a ROPE", Scenes::busy, 13, (x, n) -> x.rope(0, n));
        bounds.whats("of a BROKEN ROPE", Scenes::busy, 13, (x, n) -> x.rope(1, n));
        check.sentence("Of an ORDER what 0 LOAD, 1 LONG, 2 PAY. NoSuchElementException: another what.");
        bounds.indices("an ORDER", Scenes::busy, 2, (x, n) -> x.order(n, 0));
        bounds.whats("of an ORDER", Scenes::busy, 2, (x, n) -> x.order(0, n));
        check.sentence("What a TRIAL ROPE BEARS, so LONG (1 to 400). IllegalArgumentException: two are one, or LONG is none.");
        bounds.indices("a first one", Scenes::three, 3, (x, n) -> n == 0 ? x.bears(n, 1, 2, 5) : x.bears(n, 0, 1, 5));
        bounds.indices("a second one", Scenes::three, 3,
                (x, n) -> n == 0 ? x.bears(1, n, 2, 5) : x.bears(0, n, n == 2 ? 1 : 2, 5));
        bounds.indices("a third one", Scenes::three, 3,
                (x, n) -> n == 0 ? x.bears(1, 2, n, 5) : x.bears(0, n == 2 ? 1 : 2, n, 5));
        bounds.arguments("LONG", Scenes::busy, 1, 400, (x, n) -> x.bears(0, 1, 2, n));
        bounds.noArgument("first and second are one", Scenes::busy, x -> x.bears(1, 1, 2, 5));
        bounds.noArgument("first and third are one", Scenes::busy, x -> x.bears(1, 2, 1, 5));
        bounds.noArgument("second and third are one", Scenes::busy, x -> x.bears(2, 1, 1, 5));
        bounds.noArgument("all are one", Scenes::busy, x -> x.bears(1, 1, 1, 5));
    }

    private void laying() {
        check.sentence("LAID: its number. IllegalArgumentException: two are one, or the FATHOMS are none (1 to 200); "
                + "IllegalStateException: one has not so many; UnsupportedOperationException: there are 8.");
        Bounds.Scene longest = () -> Check.shed(Scenes.lines("yarn 9 long 200 rot 0 reign 0", 4));
        bounds.arguments("FATHOMS", longest, 1, 200, (x, n) -> x.lay(0, 1, 2, n));
        bounds.indices("a first one", longest, 4, (x, n) -> n == 0 ? x.lay(n, 1, 2, 5) : x.lay(n, 0, n == 1 ? 2 : 1, 5));
        bounds.indices("a second one", longest, 4, (x, n) -> n == 0 ? x.lay(1, n, 2, 5) : x.lay(0, n, n == 1 ? 2 : 1, 5));
        bounds.indices("a third one", longest, 4, (x, n) -> n == 0 ? x.lay(1, 2, n, 5) : x.lay(0, n == 1 ? 2 : 1, n, 5));
        bounds.noArgument("first and second are one", longest, x -> x.lay(1, 1, 2, 5));
        bounds.noArgument("first and third are one", longest, x -> x.lay(1, 2, 1, 5));
        bounds.noArgument("second and third are one", longest, x -> x.lay(2, 1, 1, 5));
        bounds.noState("1 that it has not", Bounds.after(longest, x -> x.lay(0, 1, 2, 200)), x -> x.lay(3, 1, 2, 1));
        bounds.answers(1, "200 behind 200 of others", Bounds.after(longest, x -> x.lay(0, 1, 2, 1)), x -> x.lay(3, 1, 2, 199));
        bounds.noState("the first has 199", Bounds.after(longest, x -> x.lay(0, 1, 2, 1)), x -> x.lay(1, 2, 3, 200));
        bounds.noState("the third has 199", Bounds.after(longest, x -> x.lay(0, 1, 2, 1)), x -> x.lay(3, 2, 1, 200));
        bounds.answers(0, "the first's number", longest, x -> x.lay(3, 1, 2, 5));
        bounds.answers(7, "the eighth's", Bounds.after(Scenes::full, x -> x.pick(0)), x -> x.lay(3, 1, 2, 5));
        bounds.noSupport("a ninth", Scenes::full, x -> x.lay(3, 1, 2, 5));
    }

    private void changing() {
        check.sentence("TARRED: TAR then. IllegalStateException: it is BROKEN.");
        bounds.answers(1, "once", Scenes::oneRope, x -> x.tar(0));
        bounds.noState("a BROKEN one", Scenes::busy, x -> x.tar(1));
        notThere("tarring", (x, n) -> x.tar(n));
        check.sentence("WHIPPED: whether it was not. IllegalStateException: it is BROKEN.");
        bounds.answers(true, "it was not", Scenes::oneRope, x -> x.whip(0));
        bounds.answers(false, "it was", Scenes::busy, x -> x.whip(2));
        bounds.noState("a BROKEN one", Scenes::busy, x -> x.whip(1));
        notThere("whipping", (x, n) -> x.whip(n));
        check.sentence("DOUBLED: PLIES then. IllegalStateException: it is BROKEN, has 8, or LONG is below 2.");
        bounds.answers(2, "once", Scenes::oneRope, x -> x.twice(0));
        bounds.answers(8, "4", Bounds.after(Scenes::oneRope, x -> x.twice(0), x -> x.twice(0)), x -> x.twice(0));
        bounds.noState("8", Bounds.after(Scenes::oneRope, x -> x.twice(0), x -> x.twice(0), x -> x.twice(0)), x -> x.twice(0));
        bounds.answers(2, "LONG 2", Bounds.after(Scenes::oneRope, x -> x.cut(0, 2)), x -> x.twice(1));
        bounds.noState("LONG 1", Bounds.after(Scenes::oneRope, x -> x.cut(0, 1)), x -> x.twice(1));
        bounds.noState("a BROKEN one", Scenes::busy, x -> x.twice(1));
        notThere("doubling", (x, n) -> x.twice(n));
    }

    /** Ropes that there are not: of three, of one and of none. */
    private void notThere(String what, Bounds.Numbered call) {
        for (int n : new int[] {-1, 3, Integer.MIN_VALUE, Integer.MAX_VALUE}) {
            bounds.noIndex(what + " " + n + " of three", Scenes::busy, x -> call.of(x, n));
        }
        bounds.noIndex(what + " 1 of one", Scenes::oneRope, x -> call.of(x, 1));
        bounds.noIndex(what + " 0 of none", Scenes::three, x -> call.of(x, 0));
    }

    private void cutting() {
        check.sentence("CUT: the new one's number. IllegalArgumentException: n is none (1 to LONG less 1); IllegalStateException: it "
                + "is BROKEN; UnsupportedOperationException: there are 8.");
        bounds.arguments("n of LONG 20", Scenes::oneRope, 1, 19, (x, n) -> x.cut(0, n));
        bounds.answers(1, "the second", Scenes::oneRope, x -> x.cut(0, 7));
        bounds.answers(7, "the eighth", Bounds.after(Scenes::full, x -> x.pick(7)), x -> x.cut(0, 3));
        bounds.noSupport("a ninth", Scenes::full, x -> x.cut(0, 3));
        bounds.noArgument("n of LONG 1", Bounds.after(Scenes::oneRope, x -> x.cut(0, 1)), x -> x.cut(1, 1));
        bounds.noArgument("none of LONG 1", Bounds.after(Scenes::oneRope, x -> x.cut(0, 1)), x -> x.cut(1, 0));
        bounds.answers(2, "1 of LONG 2", Bounds.after(Scenes::oneRope, x -> x.cut(0, 2)), x -> x.cut(1, 1));
        bounds.noState("a BROKEN one", Scenes::busy, x -> x.cut(1, 8));
        bounds.noArgument("a BROKEN one, LONG 0", Bounds.after(Scenes::oneRope, x -> x.seasons(20)), x -> x.cut(0, 1));
        notThere("cutting", (x, n) -> x.cut(n, 1));
    }

    private void hanging() {
        check.sentence("A LOAD is HUNG on it: what it was. IllegalArgumentException: it is none; IllegalStateException: it is "
                + "BROKEN.");
        bounds.arguments("a LOAD", Scenes::oneRope, 0, 999, (x, n) -> x.hang(0, n));
        bounds.answers(0, "nothing was", Scenes::oneRope, x -> x.hang(0, 999));
        bounds.answers(4, "4 was", Scenes::busy, x -> x.hang(2, 5));
        bounds.noState("a BROKEN one", Scenes::busy, x -> x.hang(1, 5));
        bounds.noState("nothing on a BROKEN one", Scenes::busy, x -> x.hang(1, 0));
        notThere("hanging", (x, n) -> x.hang(n, 5));
        check.sentence("MET: PAY. IllegalStateException: it cannot be.");
        bounds.answers(9, "LOAD 1, LONG 2", Scenes::busy, x -> x.meet(1, 0));
        bounds.noState("4 hangs on it", Scenes::busy, x -> x.meet(1, 2));
        bounds.noState("it is BROKEN", Scenes::busy, x -> x.meet(1, 1));
        bounds.noState("it BEARS less", Bounds.after(Scenes::busy, x -> readLaw(x, "fail 99")), x -> x.meet(1, 0));
        bounds.noState("it is not so LONG", Bounds.after(Scenes::busy, x -> x.cut(0, 5)), x -> x.meet(1, 0));
        notThere("meeting by", (x, n) -> x.meet(1, n));
        for (int none : new int[] {-1, 2, Integer.MIN_VALUE, Integer.MAX_VALUE}) {
            bounds.noIndex("meeting ORDER " + none, Scenes::busy, x -> x.meet(none, 0));
        }
        check.sentence("PICKED apart: how many ROPES there are.");
        bounds.answers(2, "of three", Scenes::busy, x -> x.pick(2));
        bounds.answers(0, "of one", Scenes::oneRope, x -> x.pick(0));
        notThere("picking", (x, n) -> x.pick(n));
    }

    private static int readLaw(YearRope x, String text) {
        x.end(0);
        return Check.law(x, text);
    }

    private void seasons() {
        check.sentence("So many SEASONS more (1 to 50): how many BROKE. IllegalArgumentException: they are none.");
        bounds.arguments("SEASONS", Scenes::busy, 1, 50, (x, n) -> x.seasons(n));
        bounds.answers(0, "none in one", Scenes::oneRope, x -> x.seasons(1));
        bounds.answers(0, "none in 19", Scenes::oneRope, x -> x.seasons(19));
        bounds.answers(1, "one in 20", Scenes::oneRope, x -> x.seasons(20));
        bounds.answers(1, "one in 50", Scenes::oneRope, x -> x.seasons(50));
        bounds.answers(8, "eight in 4", Scenes::full, x -> x.seasons(4));
        bounds.answers(0, "none of none", Scenes::empty, x -> x.seasons(50));
        bounds.answers(50, "SEASON", Bounds.after(Scenes::empty, x -> x.seasons(50)), x -> x.count(5));
    }

    private void choosing() {
        check.sentence("BEST of a LENGTH; NONE. IllegalArgumentException: it is none (1 to 200).");
        bounds.arguments("BEST of", Scenes::busy, 1, 200, (x, n) -> x.best(n));
        bounds.leaves(-1, "NONE", Scenes::busy, x -> x.best(200));
        bounds.leaves(12, "200 of 200", () -> Check.shed(Scenes.lines("yarn 9 long 200 rot 0 reign 0", 3)), x -> x.best(200));
        bounds.leaves(-1, "no YARNS", Scenes::empty, x -> x.best(1));
        check.sentence("`: CHEAPEST; NONE.");
        bounds.indices("CHEAPEST for", Scenes::busy, 2, (x, n) -> x.cheapest(n));
        bounds.noIndex("no ORDERS", Scenes::three, x -> x.cheapest(0));
        bounds.leaves(-1, "no YARNS", () -> Check.shed("order 1 long 1 pay 1"), x -> x.cheapest(0));
        check.sentence("OAKUM what 0 how many, 1 SURE, as bits, 2 ASK (NONE). NoSuchElementException: another what.");
        bounds.whats("OAKUM", Scenes::busy, 2, (x, n) -> x.oakum(16, 3, n));
        bounds.leaves(-1, "ASK of none", Scenes::empty, x -> x.oakum(3, 0, 2));
        bounds.leaves(0, "how many of none", Scenes::empty, x -> x.oakum(3, 0, 0));
        for (int none : new int[] {-1, 0, 91, Integer.MIN_VALUE, Integer.MAX_VALUE}) {
            bounds.leaves(0, "STRENGTH " + none, Scenes::busy, x -> x.oakum(none, 3, 0));
            bounds.leaves(-1, "ROT " + none, Scenes::busy, x -> x.oakum(16, none, 2));
        }
        check.sentence("LASTS. IllegalArgumentException: the LENGTH is none.");
        bounds.arguments("LASTS for", Scenes::busy, 1, 200, (x, n) -> x.lasts(n));
        bounds.leaves(0, "no YARNS", Scenes::empty, x -> x.lasts(1));
    }

    private void orders() {
        check.sentence("CAN by ROPES (yarns false), or by YARNS, as bits of ORDERS.");
        bounds.leaves(3, "by ROPES", Scenes::busy, x -> x.can(false));
        bounds.leaves(3, "by YARNS", Scenes::busy, x -> x.can(true));
        bounds.leaves(0, "no ORDERS by ROPES", Scenes::oneRope, x -> x.can(false));
        bounds.leaves(0, "no ORDERS by YARNS", Scenes::oneRope, x -> x.can(true));
        check.sentence("MOST, as bits of ORDERS (pay false), or how much PAY.");
        bounds.leaves(0, "no ROPES", () -> Check.shed("order 1 long 1 pay 1"), x -> x.most(false));
        bounds.leaves(0, "no PAY", () -> Check.shed("order 1 long 1 pay 1"), x -> x.most(true));
        check.sentence("CUTS, as bits of ORDERS (pay false), or how much; 0 of a BROKEN one.");
        bounds.leaves(0, "a BROKEN one", Scenes::busy, x -> x.cuts(1, false));
        bounds.leaves(0, "how much of it", Scenes::busy, x -> x.cuts(1, true));
        bounds.leaves(2, "a sound one", Scenes::busy, x -> x.cuts(0, false));
        notThere("cutting ORDERS of", (x, n) -> x.cuts(n, false));
        notThere("cutting for PAY of", (x, n) -> x.cuts(n, true));
        check.sentence("WALKS. IllegalArgumentException: M is none.");
        bounds.arguments("men", Scenes::busy, 1, 5, (x, n) -> x.walks(n));
        bounds.leaves(0, "no ORDERS", Scenes::empty, x -> x.walks(1));
    }

    private void sharing() {
        check.sentence("SHARE: what the first one has. IllegalArgumentException: both are one, or the LOAD is none (0 to 9999).");
        bounds.arguments("sharing", Scenes::busy, 0, 9999, (x, n) -> x.share(0, 2, n));
        bounds.noArgument("both are one", Scenes::busy, x -> x.share(0, 0, 5));
        notThere("sharing by", (x, n) -> x.share(n, 0, 5));
        notThere("sharing with", (x, n) -> x.share(0, n, 5));
        bounds.leaves(0, "both BEAR nothing", Bounds.after(Scenes::busy, x -> readLaw(x, "fail 99")), x -> x.share(0, 2, 9999));
        bounds.leaves(9999, "the other is BROKEN", Scenes::busy, x -> x.share(0, 1, 9999));
        bounds.leaves(0, "the first is BROKEN", Scenes::busy, x -> x.share(1, 0, 9999));
        check.sentence("SHARE: whether neither has more than it BEARS. IllegalArgumentException: both are one, or the LOAD is none.");
        bounds.arguments("sharing", Scenes::busy, 0, 9999, (x, n) -> x.shared(0, 2, n));
        bounds.noArgument("both are one", Scenes::busy, x -> x.shared(2, 2, 5));
        notThere("sharing by", (x, n) -> x.shared(n, 0, 5));
        notThere("sharing with", (x, n) -> x.shared(0, n, 5));
        bounds.leaves(true, "nothing, by two that are BROKEN or not", Scenes::busy, x -> x.shared(1, 0, 0));
    }

    private void foretelling() {
        check.sentence("HOLDS (change false), or CHANGE; NONE. A BROKEN one: 0, NONE.");
        bounds.leaves(0, "a BROKEN one", Scenes::busy, x -> x.holds(1, false));
        bounds.leaves(-1, "CHANGE of a BROKEN one", Scenes::busy, x -> x.holds(1, true));
        bounds.leaves(-1, "CHANGE without a LOAD", Scenes::busy, x -> x.holds(0, true));
        notThere("holding", (x, n) -> x.holds(n, false));
        notThere("changing", (x, n) -> x.holds(n, true));
        check.sentence("IF what 0 TARRED, 1 DOUBLED, 2 WHIPPED. NoSuchElementException: another what.");
        bounds.whats("IF", Scenes::busy, 2, (x, n) -> x.would(0, n));
        bounds.whats("IF, of a BROKEN one", Scenes::busy, 2, (x, n) -> x.would(1, n));
        notThere("what would be of", (x, n) -> x.would(n, 0));
    }

    private void setsOfRopes() {
        check.sentence("`: WEAKEST; NONE.");
        bounds.leaves(-1, "no ROPES", Scenes::three, YearRope::weakest);
        bounds.leaves(-1, "all BROKEN", Bounds.after(Scenes::oneRope, x -> x.seasons(20)), YearRope::weakest);
        check.sentence("`: FEWEST, as bits; NONE.");
        bounds.leaves(0, "no ROPES", Scenes::three, YearRope::fewest);
        bounds.leaves(0, "all BROKEN, no LOADS", Bounds.after(Scenes::oneRope, x -> x.seasons(20)), YearRope::fewest);
        bounds.leaves(-1, "14 by 13", Bounds.after(Scenes::oneRope, x -> x.hang(0, 14)), YearRope::fewest);
        check.sentence("BUYS, as bits. IllegalArgumentException: COINS are none.");
        bounds.arguments("COINS", Scenes::busy, 0, 9999, (x, n) -> x.buys(n));
        bounds.leaves(0, "no ROPES", Scenes::three, x -> x.buys(9999));
        check.sentence("SKIPS, as bits.");
        bounds.leaves(0, "no ROPES", Scenes::three, YearRope::skips);
        bounds.leaves(255, "eight", Scenes::full, YearRope::skips);
        check.sentence("UNWHIPPED ones that are not BROKEN, as bits.");
        bounds.leaves(0, "no ROPES", Scenes::three, YearRope::loose);
        bounds.leaves(1, "the second is BROKEN, the third WHIPPED", Scenes::busy, YearRope::loose);
    }

    private void trials() {
        check.sentence("TRIAL: BROKEN ones, as bits (fell false), or LOADS that fell. IllegalArgumentException: N is none.");
        bounds.arguments("TRIAL of", Scenes::busy, 0, 40, (x, n) -> x.trial(n, false));
        bounds.arguments("LOADS in a TRIAL of", Scenes::busy, 0, 40, (x, n) -> x.trial(n, true));
        bounds.leaves(0, "no ROPES", Scenes::three, x -> x.trial(40, false));
        check.sentence("SPAN: the fewest (most false), or the most. IllegalArgumentException: N is none.");
        bounds.arguments("the fewest of", Scenes::busy, 0, 40, (x, n) -> x.span(n, false));
        bounds.arguments("the most of", Scenes::busy, 0, 40, (x, n) -> x.span(n, true));
        bounds.leaves(0, "no ROPES", Scenes::three, x -> x.span(40, true));
    }

    private void logAndSeed() {
        check.sentence("LED: how many rows (loads false), or LOADS.");
        bounds.indices("rows of", Scenes::busy, 4, (x, n) -> x.led(n, false));
        bounds.indices("LOADS of", Scenes::busy, 4, (x, n) -> x.led(n, true));
        bounds.noIndex("no YARNS", Scenes::empty, x -> x.led(0, false));
        check.sentence("THE LOG so many ago (0 the latest) what 0 SEASON, 1, 2, 3 its YARNS, 4 the LOAD; NONE without. "
                + "NoSuchElementException: another what.");
        bounds.whats("THE LOG", Scenes::busy, 4, (x, n) -> x.log(0, n));
        bounds.whats("THE LOG without such a row", Scenes::busy, 4, (x, n) -> x.log(-1, n));
        bounds.whats("no LOG", Scenes::empty, 4, (x, n) -> x.log(0, n));
        for (int none : new int[] {1, 59, 60, -1, Integer.MIN_VALUE, Integer.MAX_VALUE}) {
            for (int what = 0; what < 5; what++) {
                int w = what;
                bounds.leaves(-1, "row " + none + " of one", Scenes::busy, x -> x.log(none, w));
            }
        }
        bounds.leaves(999, "row 0 of one", Scenes::busy, x -> x.log(0, 4));
        bounds.leaves(-1, "row 0 of none", Scenes::three, x -> x.log(0, 4));
        check.sentence("SEED: what it was.");
        for (int seed : new int[] {0, -1, 1, Integer.MIN_VALUE, Integer.MAX_VALUE}) {
            bounds.answers(1, "what it was ahead of " + seed, Scenes::oneRope, x -> x.seed(seed));
            bounds.answers(seed, "what it is behind", Bounds.after(Scenes::oneRope, x -> x.seed(seed)), x -> x.seed(7));
        }
    }

    private void undoing() {
        check.sentence("UNDONE: whether there was one.");
        bounds.leaves(false, "none", Scenes::oneRope, YearRope::undo);
        bounds.answers(true, "one", Bounds.after(Scenes::oneRope, x -> x.tar(0)), YearRope::undo);
        bounds.leaves(false, "one, undone", Bounds.after(Scenes::oneRope, x -> x.tar(0), YearRope::undo), YearRope::undo);
        check.sentence("THE IMAGE is kept.");
        bounds.answers(true, "of nothing", Bounds.after(Scenes::empty, PromiseBoundsTest::keep), YearRope::back);
        bounds.answers(2, "it is no act", Bounds.after(Scenes::busy, PromiseBoundsTest::keep), x -> x.count(14));
        check.sentence("One goes back to THE IMAGE: true; false, and nothing happens, if none was kept.");
        bounds.leaves(false, "none was kept", Bounds.after(Scenes::oneRope, x -> x.tar(0)), YearRope::back);
        bounds.leaves(false, "none was kept", Scenes::empty, YearRope::back);
        bounds.answers(true, "one was kept", Scenes::busy, YearRope::back);
        bounds.answers(true, "and is still", Bounds.after(Scenes::busy, YearRope::back), YearRope::back);
    }

    private static Object keep(YearRope x) {
        x.image();
        return x;
    }

    private void counting() {
        check.sentence("0 YARNS, 1 ROPES, 2 ORDERS, 3 texts of THE WALK,");
        String[] texts = {"", Scenes.THREE, "rope 0 1 2 long 1", "order 1 long 1 pay 1"};
        YearRope told = Scenes.empty();
        for (int text = 0; text < texts.length; text++) {
            Check.walk(told, texts[text]);
            int[] counts = {text >= 1 ? 3 : 0, text >= 2 ? 1 : 0, text >= 3 ? 1 : 0, text + 1};
            for (int what = 0; what < counts.length; what++) {
                int w = what;
                check.due("count " + w + " behind " + (text + 1) + " texts", counts[w], () -> told.count(w));
            }
        }
        check.sentence("5 SEASON, 6 GALE, 7 DAMP, 8 LOADS");
        bounds.leaves(3, "three SEASONS", Bounds.after(Scenes::oneRope, x -> x.seasons(3)), x -> x.count(5));
        bounds.leaves(7, "GALE 7", () -> Check.shed("damp 5;gale 7"), x -> x.count(6));
        bounds.leaves(5, "DAMP 5", () -> Check.shed("damp 5;gale 7"), x -> x.count(7));
        check.sentence("4 LINES of THE LAW (NONE without one), 5 SEASON,");
        bounds.leaves(-1, "without one", Scenes::oneRope, x -> x.count(4));
        bounds.leaves(0, "an empty one", Bounds.after(Scenes::oneRope, x -> Check.law(x, "")), x -> x.count(4));
        bounds.leaves(3, "three LINES", Scenes::busy, x -> x.count(4));
        check.sentence("8 LOADS that hang together, 9 LOADS that fell in all, 10 how many BROKE in all, 11 EARNED, 12 BROKEN ones, as "
                + "bits, 13 rows of THE LOG, 14 acts that can be UNDONE. NONE for another what.");
        int[] busy = {4, 3, 2, 1, 3, 1, 20, 30, 4, 999, 1, 0, 2, 1, 2};
        for (int what = 0; what < busy.length; what++) {
            int w = what;
            bounds.leaves(busy[w], "count " + w, Scenes::busy, x -> x.count(w));
        }
        for (int none : new int[] {-1, 15, Integer.MIN_VALUE, Integer.MAX_VALUE}) {
            bounds.leaves(-1, "count " + none, Scenes::busy, x -> x.count(none));
        }
    }

    private void lastCall() {
        check.sentence("An object is used for at most 512 calls after it has been made; what later calls answer is free.");
        YearRope x = new YearRope();
        for (int call = 1; call < 512; call++) {
            x.seed(call);
        }
        check.due("the 512th", 511, () -> x.seed(0));
        YearRope y = Scenes.three();
        y.lay(0, 1, 2, 9);
        // making the scene took seven calls
        for (int call = 9; call < 512; call++) {
            y.seasons(50);
        }
        check.due("the 512th of another", 0, () -> y.rope(0, 3));
    }
}

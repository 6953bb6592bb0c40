import java.util.Random;

/**
 * Long runs of drawn calls on YearRope and on the model: every answer must be the same. In some runs ropes break till
 * THE LOG is more than full, some go on to the last SEASON.
 */
public final class ModelTest {

    private static final int RUNS = 1500;
    private static final int BREAKING_RUNS = 150;
    private static final int AGED_RUNS = 150;
    private static final int CALLS = 500;

    private final Random draws;
    private final Check check;
    private final String run;
    private final YearRope x = new YearRope();
    private final Model m = new Model();
    private int calls;

    private ModelTest(int run, Check check) {
        this.draws = new Random(run);
        this.check = check;
        this.run = "run " + run;
    }

    public static void main(String[] args) {
        Check check = new Check("ModelTest");
        for (int run = 0; run < RUNS; run++) {
            new ModelTest(run, check).go();
        }
        int fullLogs = 0;
        for (int run = RUNS; run < RUNS + BREAKING_RUNS; run++) {
            ModelTest test = new ModelTest(run, check);
            test.breakMany();
            fullLogs += test.m.count(10) > 60 ? 1 : 0;
        }
        int logs = fullLogs;
        check.due("some logs are more than full", true, () -> logs > BREAKING_RUNS / 2);
        for (int run = RUNS + BREAKING_RUNS; run < RUNS + BREAKING_RUNS + AGED_RUNS; run++) {
            new ModelTest(run, check).growOld();
        }
        check.end();
    }

    private void go() {
        boolean calm = draws.nextInt(3) == 0;
        tell(fullWalk(calm), true);
        if (draws.nextInt(4) > 0) {
            tell(Texts.law(draws), false);
        }
        for (int i = 0; i < CALLS && calls < CALLS; i++) {
            int kind = draws.nextInt(100);
            if (kind < 4) {
                tell(draws.nextInt(3) > 0 ? Texts.walk(draws) : Texts.spoilt(draws, Texts.walk(draws)), true);
            } else if (kind < 7) {
                tell(draws.nextInt(3) > 0 ? Texts.law(draws) : Texts.spoilt(draws, Texts.law(draws)), false);
            } else if (kind < 45) {
                act();
            } else {
                ask();
            }
        }
    }

    /** Rounds of ropes that are laid, loaded with too much, broken and picked, and what the log tells of them. */
    private void breakMany() {
        tell(fullWalk(true), true);
        tell(Scenes.lines("yarn 9 long 200 rot 3 reign 1", 2), true);
        while (calls < CALLS - 30) {
            int ropes = m.count(1);
            for (int i = ropes; i < 8; i++) {
                int a = index(m.count(0));
                int b = index(m.count(0));
                int c = index(m.count(0));
                same("lay " + a + " " + b + " " + c, () -> x.lay(a, b, c, 1), () -> m.lay(a, b, c, 1));
            }
            for (int i = draws.nextInt(4); i > 0; i--) {
                int r = index(m.count(1));
                int n = within(0, 999);
                same("hang " + r + " " + n, () -> x.hang(r, n), () -> m.hang(r, n));
            }
            int n = 1 + draws.nextInt(2);
            same("seasons " + n, () -> x.seasons(n), () -> m.seasons(n));
            if (draws.nextInt(6) == 0) {
                was();
            }
            askLog(index(m.count(0)), draws.nextBoolean());
            for (int i = m.count(1); i > 0; i--) {
                same("pick", () -> x.pick(0), () -> m.pick(0));
            }
        }
        for (int i = 0; i < 10; i++) {
            askLog(index(m.count(0)), draws.nextBoolean());
        }
    }

    /** To the last SEASON but some, and through it. */
    private void growOld() {
        tell(fullWalk(false), true);
        tell(Texts.law(draws), false);
        for (int i = 0; i < 199; i++) {
            same("50 seasons", () -> x.seasons(50), () -> m.seasons(50));
        }
        int rest = 40 + draws.nextInt(10);
        same(rest + " seasons", () -> x.seasons(rest), () -> m.seasons(rest));
        for (int i = 0; i < CALLS && calls < CALLS; i++) {
            if (draws.nextInt(3) == 0) {
                act();
            } else {
                ask();
            }
        }
    }

    private String fullWalk(boolean calm) {
        StringBuilder text = new StringBuilder();
        for (int i = draws.nextInt(8) + 3; i > 0; i--) {
            text.append(Texts.yarn(draws)).append(';');
        }
        return text + "gale " + (calm ? 0 : draws.nextInt(101)) + ";damp " + (calm ? 0 : draws.nextInt(101));
    }

    private void tell(String told, boolean walk) {
        String text = told.length() > 400 ? told.substring(0, 400) : told;
        for (int[] r : Check.feeds(text)) {
            same("feed", () -> x.feed(r[0], r[1], r[2], r[3], r[4]), () -> m.feed(r[0], r[1], r[2], r[3], r[4]));
        }
        int end = draws.nextInt(30) == 0 ? draws.nextInt(450) - 20 : text.length();
        same("end " + end, () -> x.end(end), () -> m.end(end));
        if (walk) {
            same("walk '" + text + "'", x::walk, m::walk);
        } else {
            same("law '" + text + "'", x::law, m::law);
        }
        same("fault '" + text + "'", x::fault, m::fault);
    }

    private void same(String call, Check.Call got, Check.Call want) {
        calls++;
        check.due(run + ", call " + calls + " " + call, Check.outcome(want), got);
    }

    /** A number that mostly stands, at times one below or above all. */
    private int index(int count) {
        int odd = draws.nextInt(40);
        return odd == 0 ? -1 : odd == 1 ? count : odd == 2 ? Integer.MIN_VALUE : count == 0 ? 0 : draws.nextInt(count);
    }

    private int within(int least, int most) {
        int odd = draws.nextInt(40);
        return odd == 0 ? least - 1 : odd == 1 ? most + 1 : odd == 2 ? Integer.MAX_VALUE : odd < 6 ? least
                : odd < 9 ? most : least + draws.nextInt(most - least + 1);
    }

    private void act() {
        int r = index(m.count(1));
        int a = index(m.count(0));
        int b = index(m.count(0));
        int c = index(m.count(0));
        switch (draws.nextInt(14)) {
            case 0, 1, 2 -> {
                int f = within(1, draws.nextInt(3) == 0 ? 200 : 20);
                same("lay " + a + " " + b + " " + c + " " + f, () -> x.lay(a, b, c, f), () -> m.lay(a, b, c, f));
            }
            case 3 -> same("tar " + r, () -> x.tar(r), () -> m.tar(r));
            case 4 -> same("whip " + r, () -> x.whip(r), () -> m.whip(r));
            case 5 -> same("twice " + r, () -> x.twice(r), () -> m.twice(r));
            case 6 -> {
                int n = within(1, 10);
                same("cut " + r + " " + n, () -> x.cut(r, n), () -> m.cut(r, n));
            }
            case 7, 8 -> {
                int n = within(0, draws.nextInt(3) == 0 ? 999 : 60);
                same("hang " + r + " " + n, () -> x.hang(r, n), () -> m.hang(r, n));
            }
            case 9, 10 -> {
                int o = index(m.count(2));
                same("meet " + o + " " + r, () -> x.meet(o, r), () -> m.meet(o, r));
            }
            case 11 -> {
                if (draws.nextInt(3) == 0) {
                    same("pick " + r, () -> x.pick(r), () -> m.pick(r));
                }
            }
            case 12 -> {
                int n = within(1, draws.nextInt(4) == 0 ? 50 : 5);
                same("seasons " + n, () -> x.seasons(n), () -> m.seasons(n));
            }
            default -> was();
        }
    }

    private void was() {
        int n = draws.nextInt();
        switch (draws.nextInt(6)) {
            case 0 -> {
                x.image();
                m.image();
            }
            case 1 -> same("back", x::back, m::back);
            case 2 -> same("seed " + n, () -> x.seed(n), () -> m.seed(n));
            default -> same("undo", x::undo, m::undo);
        }
    }

    private void ask() {
        boolean flag = draws.nextBoolean();
        int r = index(m.count(1));
        int q = index(m.count(1));
        int y = index(m.count(0));
        int o = index(m.count(2));
        switch (draws.nextInt(27)) {
            case 0 -> {
                int w = within(0, 5);
                same("yarn " + y + " " + w, () -> x.yarn(y, w), () -> m.yarn(y, w));
            }
            case 1, 2, 3 -> {
                int w = within(0, 13);
                same("rope " + r + " " + w, () -> x.rope(r, w), () -> m.rope(r, w));
            }
            case 4 -> {
                int w = within(0, 2);
                same("order " + o + " " + w, () -> x.order(o, w), () -> m.order(o, w));
            }
            case 5 -> {
                int a = index(m.count(0));
                int b = index(m.count(0));
                int n = within(1, 400);
                same("bears " + y + " " + a + " " + b + " " + n, () -> x.bears(y, a, b, n), () -> m.bears(y, a, b, n));
            }
            case 6 -> {
                int n = within(1, draws.nextInt(3) == 0 ? 200 : 40);
                same("best " + n, () -> x.best(n), () -> m.best(n));
            }
            case 7 -> same("cheapest " + o, () -> x.cheapest(o), () -> m.cheapest(o));
            case 8 -> same("can " + flag, () -> x.can(flag), () -> m.can(flag));
            case 9 -> same("most " + flag, () -> x.most(flag), () -> m.most(flag));
            case 10 -> same("cuts " + r + " " + flag, () -> x.cuts(r, flag), () -> m.cuts(r, flag));
            case 11 -> {
                int n = within(1, 5);
                same("walks " + n, () -> x.walks(n), () -> m.walks(n));
            }
            case 12, 13 -> {
                int n = within(0, draws.nextInt(3) == 0 ? 9999 : 100);
                same("share " + r + " " + q + " " + n, () -> x.share(r, q, n), () -> m.share(r, q, n));
                same("shared " + r + " " + q + " " + n, () -> x.shared(r, q, n), () -> m.shared(r, q, n));
            }
            case 14 -> askOakum();
            case 15 -> same("holds " + r + " " + flag, () -> x.holds(r, flag), () -> m.holds(r, flag));
            case 16 -> {
                int w = within(0, 2);
                same("would " + r + " " + w, () -> x.would(r, w), () -> m.would(r, w));
            }
            case 17 -> same("weakest", x::weakest, m::weakest);
            case 18 -> same("fewest", x::fewest, m::fewest);
            case 19 -> {
                int n = within(0, draws.nextInt(3) == 0 ? 9999 : 300);
                same("buys " + n, () -> x.buys(n), () -> m.buys(n));
            }
            case 20 -> same("skips", x::skips, m::skips);
            case 21 -> same("loose", x::loose, m::loose);
            case 22 -> {
                int n = within(1, draws.nextInt(3) == 0 ? 200 : 9);
                same("lasts " + n, () -> x.lasts(n), () -> m.lasts(n));
            }
            case 23 -> {
                int n = within(0, draws.nextInt(3) == 0 ? 40 : 6);
                same("trial " + n + " " + flag, () -> x.trial(n, flag), () -> m.trial(n, flag));
            }
            case 24 -> {
                int n = within(0, draws.nextInt(3) == 0 ? 40 : 6);
                same("span " + n + " " + flag, () -> x.span(n, flag), () -> m.span(n, flag));
            }
            case 25 -> askLog(y, flag);
            default -> {
                int w = within(0, 14);
                same("count " + w, () -> x.count(w), () -> m.count(w));
            }
        }
    }

    private void askOakum() {
        int strength = within(3, 90);
        int rot = within(0, 27);
        if (m.count(0) >= 3 && draws.nextInt(4) > 0) {
            int a = draws.nextInt(m.count(0) - 2);
            strength = m.yarn(a, 0) + m.yarn(a + 1, 0) + m.yarn(a + 2, 0);
            rot = m.yarn(a, 2) + m.yarn(a + 1, 2) + m.yarn(a + 2, 2);
        }
        int s = strength;
        int t = rot;
        int w = within(0, 2);
        same("oakum " + s + " " + t + " " + w, () -> x.oakum(s, t, w), () -> m.oakum(s, t, w));
    }

    private void askLog(int y, boolean flag) {
        int ago = index(m.count(13));
        int w = within(0, 4);
        same("log " + ago + " " + w, () -> x.log(ago, w), () -> m.log(ago, w));
        same("led " + y + " " + flag, () -> x.led(y, flag), () -> m.led(y, flag));
    }
}

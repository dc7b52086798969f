import java.util.Random;

/** All promises: random runs of calls, each answer held against the model's. */
public final class ModelTest {
    private static final int RUNS = 1500;
    private static final int CALLS = 300;
    private static final int LATE_RUNS = 150;
    private static final int LATE_CALLS = 200;

    private final Random random;
    private final ShutDays x = new ShutDays();
    private final Model m = new Model();
    private String script = "";
    private int fed = 0;

    private ModelTest(long seed) {
        random = new Random(seed);
    }

    public static void main(String[] args) {
        for (int seed = 0; seed < RUNS; seed++) {
            if (!new ModelTest(seed).isRunRight(CALLS)) {
                System.out.println("seed " + seed);
                break;
            }
        }
        for (int seed = 0; seed < LATE_RUNS; seed++) {
            ModelTest test = new ModelTest(seed);
            test.goToTheLastYears();
            if (!test.isRunRight(LATE_CALLS)) {
                System.out.println("late seed " + seed);
                break;
            }
        }
        Due.finish();
    }

    private boolean isRunRight(int calls) {
        for (int i = 0; i < calls; i++) {
            if (!isCallRight()) {
                System.out.println("call " + i);
                return false;
            }
        }
        return true;
    }

    /** By days alone a run of this length hardly comes to day 9999, where none can pass. */
    private void goToTheLastYears() {
        for (int i = 0; i < 165; i++) {
            same("day(60)", x.day(60), m.day(60));
        }
        same("image()", x.image(), m.image());
    }

    private int n(int least, int most) {
        return least + random.nextInt(most - least + 1);
    }

    /** Mostly within, now and then one beside. */
    private int about(int least, int most) {
        return random.nextInt(12) == 0 ? n(least - 2, most + 2) : n(least, most);
    }

    private int house() {
        int told = x.about(0);
        return told == 0 || random.nextInt(15) == 0 ? n(-2, 8) : n(0, told - 1);
    }

    private int date() {
        // Few dates, so that houses share them often.
        return random.nextInt(3) == 0 ? about(0, 19) : n(0, 5);
    }

    private boolean same(String call, long got, long want) {
        Due.due(call, got, want);
        return got == want;
    }

    private static long b(boolean so) {
        return so ? 1 : 0;
    }

    private boolean isCallRight() {
        if (!script.isEmpty()) {
            return isFeedRight();
        }
        int kind = random.nextInt(100);
        if (kind < 6) {
            int b = random.nextBoolean() ? -1 : date();
            int c = random.nextBoolean() ? -1 : date();
            int a = random.nextInt(8) == 0 ? -1 : date();
            int purse = random.nextInt(8) == 0 ? n(9900, 10010) : about(0, 300);
            int friends = about(0, 99);
            return same("house(" + a + ", " + b + ", " + c + ", " + purse + ", " + friends + ")",
                    x.house(a, b, c, purse, friends), m.house(a, b, c, purse, friends));
        }
        if (kind < 13) {
            return isTextRight();
        }
        if (kind < 40) {
            return isDeedRight();
        }
        if (kind < 60) {
            return isStateRight();
        }
        return kind < 80 ? isQuestionRight() : isPlanRight();
    }

    private boolean isFeedRight() {
        if (fed == 0 && (x.end(0) != m.end(0) || x.about(6) != 0)) {
            return false;
        }
        if (fed < script.length()) {
            int[] f = new int[5];
            for (int i = 0; i < 5; i++) {
                f[i] = Due.four(script, fed + 4 * i);
            }
            fed += 20;
            return same("feed", x.feed(f[0], f[1], f[2], f[3], f[4]), m.feed(f));
        }
        boolean so = same("end", x.end(script.length()), m.end(script.length()));
        String was = script;
        script = "";
        fed = 0;
        return so && same("text of " + was, x.text(), m.text())
                && same("fault(0) of " + was, x.fault(0), m.fault(0))
                && same("fault(1) of " + was, x.fault(1), m.fault(1));
    }

    private boolean isTextRight() {
        int a = n(-2, 4);
        switch (random.nextInt(5)) {
            case 0:
            case 1:
                script = new ScriptMaker(random).text();
                return true;
            case 2:
                return same("by(" + a + ")", b(x.by(a)), b(m.by(a)));
            case 3:
                return same("played(" + a + ")", x.played(a), m.played(a));
            default:
                return same("fault(" + a + ")", x.fault(a), m.fault(a)) && same("end", x.end(a), m.end(a));
        }
    }

    private boolean isDeedRight() {
        int h = house();
        int g = house();
        int d = date();
        int k = about(1, random.nextInt(4) == 0 ? 60 : 3);
        int seed = about(0, 9999);
        switch (random.nextInt(12)) {
            case 0:
            case 1:
            case 2:
                return same("knock(" + h + ")", x.knock(h), m.knock(h));
            case 3:
                return random.nextInt(3) > 0 || same("marry(" + h + ", " + g + ")", x.marry(h, g), m.marry(h, g));
            case 4:
                return same("hat(" + h + ")", x.hat(h), m.hat(h));
            case 5:
                return same("forget(" + d + ", " + h + ")", b(x.forget(d, h)), b(m.forget(d, h)));
            case 6:
            case 7:
                return same("day(" + k + ")", x.day(k), m.day(k));
            case 8:
                return same("years(" + seed + ", " + k + ")", x.years(seed, k), m.years(seed, k));
            case 9:
                return same("undo()", x.undo(), m.undo());
            case 10:
                return random.nextInt(3) > 0 || same("image()", x.image(), m.image());
            default:
                return random.nextInt(6) > 0 || same("back()", x.back(), m.back());
        }
    }

    private boolean isStateRight() {
        int h = house();
        int w = about(0, 8);
        int i = about(-1, 40);
        boolean so = random.nextBoolean();
        int g = house();
        switch (random.nextInt(8)) {
            case 0:
            case 1:
                return same("of(" + h + ", " + w + ")", x.of(h, w), m.of(h, w));
            case 2:
                return same("is(" + w / 2 + ")", x.is(w / 2), m.is(w / 2));
            case 3:
                return same("book(" + i + ", " + w / 3 + ")", x.book(i, w / 3), m.book(i, w / 3));
            case 4:
                return same("about(" + w + ")", x.about(w), m.about(w));
            case 5:
                return same("knocks(" + h + ", " + so + ")", x.knocks(h, so), m.knocks(h, so));
            case 6:
                return same("offended()", x.offended(), m.offended());
            default:
                return same("leap(" + h + ", " + g + ")", x.leap(h, g), m.leap(h, g));
        }
    }

    private boolean isQuestionRight() {
        int h = house();
        int d = date();
        int k = about(1, 7);
        int n = about(1, 60);
        int s = about(1, 3);
        boolean so = random.nextBoolean();
        switch (random.nextInt(15)) {
            case 0:
                return same("foretold(" + n + ", " + h + ")", x.foretold(n, h), m.foretold(n, h));
            case 1:
                return same("indoors(" + k + ")", x.indoors(k), m.indoors(k));
            case 2:
                return same("crowded(" + so + ")", x.crowded(so), m.crowded(so));
            case 3:
                return same("feast(" + so + ")", x.feast(so), m.feast(so));
            case 4:
                return same("alone()", x.alone(), m.alone());
            case 5:
                return same("nobodys()", x.nobodys(), m.nobodys());
            case 6:
                return same("poorest(" + n + ")", x.poorest(n), m.poorest(n));
            case 7:
            case 8:
                return same("seen(" + h + ", " + d + ", " + so + ")", x.seen(h, d, so), m.seen(h, d, so));
            case 9:
                return same("sets(" + h + ", " + s + ", " + so + ")", x.sets(h, s, so), m.sets(h, s, so));
            case 10:
                return same("odds(" + h + ", " + s + ", " + d + ", " + so + ")",
                        x.odds(h, s, d, so), m.odds(h, s, d, so));
            case 11:
                return same("nextKnock(" + h + ", " + s + ")", x.nextKnock(h, s), m.nextKnock(h, s));
            case 12:
            case 13:
                return same("thieves(" + d + ", " + k + ", " + so + ")", x.thieves(d, k, so), m.thieves(d, k, so));
            default:
                return same("night(" + k + ")", x.night(k), m.night(k));
        }
    }

    private boolean isPlanRight() {
        int h = house();
        int g = house();
        int n = about(1, 60);
        int set = random.nextInt(4) == 0 ? about(0, 127) : random.nextInt(1 << x.about(0));
        int of = random.nextInt(3) == 0 ? -1 : house();
        boolean so = random.nextBoolean();
        switch (random.nextInt(11)) {
            case 0:
            case 1:
                return same("appointments(" + set + ", " + of + ")", x.appointments(set, of), m.appointments(set, of));
            case 2:
                return same("rounds()", x.rounds(), m.rounds());
            case 3:
                return same("weddings(" + of + ")", x.weddings(of), m.weddings(of));
            case 4:
                return same("twins()", x.twins(), m.twins());
            case 5:
            case 6:
                return same("gossip(" + h + ", " + g + ")", x.gossip(h, g), m.gossip(h, g));
            case 7:
                return same("knows(" + h + ", " + g + ")", x.knows(h, g), m.knows(h, g));
            case 8:
                return same("never(" + h + ")", x.never(h), m.never(h));
            case 9:
                return same("richest(" + so + ")", x.richest(so), m.richest(so));
            default:
                return same("whose(" + n + ")", x.whose(n), m.whose(n));
        }
    }
}

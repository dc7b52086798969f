/** Edges of promises 8, 10, 13, 14: every branch of a turn, the longest row of draws, laws as they are at a knock. */
public final class YearsEdgesTest {
    private static final int HOUSES = 5;
    private static final int GONE = 3;

    private static final int[] met = new int[6];
    private static int hats = 0;
    private static int forgotten = 0;

    public static void main(String[] args) {
        secondTurns();
        everyBranchWasMet();
        drawsOfOneCall();
        oneHouseAlone();
        longestRowOfDraws();
        knockByTheDayItself();
        knockByWhoIsOpen();
        knockInYears();
        scriptKnocks();
        Due.finish();
    }

    private static int next(int x) {
        return (x * 359 + 239) % 30431;
    }

    /** House 0 has three dates, 1 has two, 2 has one, 3 is gone, 4 has none. */
    private static ShutDays town() {
        ShutDays x = new ShutDays();
        x.house(0, 5, 15, 10, 10);
        x.house(4, 10, -1, 10, 10);
        x.house(19, -1, -1, 10, 10);
        x.house(0, 5, 15, 10, 10);
        x.house(-1, -1, -1, 10, 10);
        x.marry(3, 0);
        return x;
    }

    /** The first x of a seed is odd; the second may be any, so that it comes to each of the six. */
    private static void secondTurns() {
        for (int seed = 0; seed <= 9999; seed += 3) {
            ShutDays x = town();
            ShutDays y = town();
            x.years(seed, 1);
            y.years(seed, 2);
            secondTurn("years(" + seed + ", 2)", x, y);
        }
    }

    private static void secondTurn(String call, ShutDays x, ShutDays y) {
        int drawn = x.is(2);
        int house = drawn % HOUSES;
        int rest = drawn % 6;
        met[rest]++;
        int dates = x.of(house, 0);
        int then = next(drawn);
        if (rest == 2 && drawn % 4 == 0 && house != GONE && Integer.bitCount(dates) < 3) {
            while ((dates >> then % 20 & 1) == 1) {
                then = next(then);
            }
            dates |= 1 << then % 20;
            then = next(then);
            hats++;
        }
        if (rest == 3 && house != GONE && (dates >> drawn % 20 & 1) == 1) {
            forgotten++;
            dates &= ~(1 << drawn % 20);
        }
        boolean knocks = rest <= 1 && house != GONE;
        boolean shut = x.of(house, 4) == 1;
        Due.due(call + ": dates", y.of(house, 0), dates);
        Due.due(call + ": x", y.is(2), then);
        Due.due(call + ": day", y.is(0), x.is(0) + (rest >= 4 ? 1 : 0));
        Due.due(call + ": knocks", y.book(-1, 0), x.book(-1, 0) + (knocks ? 1 : 0));
        Due.due(call + ": friends", y.of(house, 2), x.of(house, 2) + (knocks ? shut ? -1 : 1 : 0));
        Due.due(call + ": one step", y.about(3), 2);
        for (int h = 0; h < HOUSES; h++) {
            if (h != house) {
                Due.due(call + ": dates of " + h, y.of(h, 0), x.of(h, 0));
                Due.due(call + ": friends of " + h, y.of(h, 2), x.of(h, 2));
            }
        }
    }

    private static void everyBranchWasMet() {
        for (int rest = 0; rest < 6; rest++) {
            Due.due("x mod 6 was " + rest, met[rest] > 0, true);
        }
        Due.due("out of the hat", hats > 0, true);
        Due.due("forgotten", forgotten > 0, true);
    }

    /** So many turns at once are the same as the turns of one call less, and one more. */
    private static void drawsOfOneCall() {
        ShutDays x = town();
        int day = 0;
        for (int n = 1; n <= 40; n++) {
            int passed = x.years(77, n);
            Due.due("day is told", passed, x.is(0));
            Due.due("no turn takes a day back", passed == day || passed == day + 1, true);
            day = passed;
            Due.due("one step", x.about(3), 2);
            x.undo();
            Due.due("day is back", x.is(0), 0);
            Due.due("x is back", x.is(2), 131);
            Due.due("book is back", x.book(-1, 0), 0);
        }
    }

    /** x mod 1 is 0: each knock is at house 0. */
    private static void oneHouseAlone() {
        ShutDays x = new ShutDays();
        x.house(-1, -1, -1, 0, 0);
        x.years(3, 40);
        int knocks = x.book(-1, 0);
        Due.due("some knocks", knocks > 0, true);
        for (int i = 0; i < knocks; i++) {
            Due.due("at 0", x.book(i, 1), 0);
        }
    }

    /** X 14039 draws 19 5 19 5 19 19 10: no X draws two dates longer than these six draws. */
    private static void longestRowOfDraws() {
        ShutDays x = new ShutDays();
        x.house(5, 19, -1, 0, 0);
        Due.due("a day", x.years(4743, 1), 1);
        Due.due("x", x.is(2), 14039);
        Due.due("the seventh draw", x.hat(0), 10);
        int then = 14039;
        for (int i = 0; i < 7; i++) {
            then = next(then);
        }
        Due.due("seven draws", x.is(2), then);
        Due.due("its dates", x.of(0, 0), 1 << 5 | 1 << 10 | 1 << 19);
    }

    /** The names are those of the knock's day, though a day that passed was looked at before. */
    private static void knockByTheDayItself() {
        ShutDays x = new ShutDays();
        x.house(-1, -1, -1, 0, 10);
        Due.told(x, "lets day = 21 and date = 1;");
        x.by(0);
        x.day(20);
        x.knock(0);
        Due.due("day 20", x.of(0, 2), 10);
        x.day(1);
        x.knock(0);
        Due.due("day 21", x.of(0, 2), 11);
        x.undo();
        x.undo();
        x.knock(0);
        Due.due("day 20 again", x.of(0, 2), 10);
    }

    private static void knockByWhoIsOpen() {
        ShutDays x = new ShutDays();
        x.house(-1, -1, -1, 0, 10);
        Due.told(x, "lets open = 2;");
        x.by(0);
        x.knock(0);
        Due.due("one is open", x.of(0, 2), 10);
        x.house(0, -1, -1, 0, 0);
        x.knock(0);
        Due.due("the new one is shut", x.of(0, 2), 10);
        x.forget(0, 1);
        x.knock(0);
        Due.due("now it's open", x.of(0, 2), 11);
        x.undo();
        x.undo();
        x.knock(0);
        Due.due("shut again", x.of(0, 2), 10);
        x.house(1, -1, -1, 0, 0);
        x.knock(0);
        Due.due("the third is open", x.of(0, 2), 11);
        x.marry(1, 2);
        x.knock(0);
        Due.due("the third has 0 as well", x.of(0, 2), 11);
    }

    /** Seed 0: a day, then (16837 mod 6 is 1) a knock at house 16837 mod 2, 1. */
    private static void knockInYears() {
        ShutDays x = new ShutDays();
        x.house(-1, -1, -1, 0, 10);
        x.house(-1, -1, -1, 0, 20);
        Due.told(x, "lets day = 1 and house = 1 and friends = 20;");
        x.by(0);
        Due.due("day 1", x.years(0, 2), 1);
        Due.due("let in", x.of(1, 2), 21);
        Due.due("its day", x.book(0, 0), 1);
        Due.due("its house", x.book(0, 1), 1);
        x.undo();
        Due.due("friends are back", x.of(1, 2), 20);
        x.day(1);
        x.years(0, 2);
        Due.due("on day 2 not", x.of(1, 2), 20);
    }

    private static void scriptKnocks() {
        ShutDays x = new ShutDays();
        Due.told(x, "lets day = 3; house 2 purse 0 friends 7; knock 0; day 2; knock 0; day 1; knock 0;");
        x.by(0);
        Due.due("all is done", x.played(0), -1);
        int[][] want = {{0, 0}, {2, 1}, {3, 0}};
        for (int i = 0; i < 3; i++) {
            Due.due("day of knock " + i, x.book(i, 0), want[i][0]);
            Due.due("shut at knock " + i, x.book(i, 2), want[i][1]);
        }
        Due.due("7, not let in, less 1, let in", x.of(0, 2), 7);
        Due.due("six steps", x.about(3), 6);
    }
}

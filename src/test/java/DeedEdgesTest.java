/** Edges of promises 8 to 15: what a deed does at its limits, and that a refused one does nothing at all. */
public final class DeedEdgesTest {
    public static void main(String[] args) {
        friendsAtTheirLimits();
        knocksRefused();
        knockChangesNoMore();
        mergedDates();
        mergedPurses();
        marriagesRefused();
        allIntoOne();
        hatTillThree();
        hatsRefused();
        hatOverItsDates();
        forgetting();
        howManyDays();
        yearsEnd();
        pursesAtTheirLimits();
        theLastDays();
        eachDayIsAStep();
        scriptsEnd();
        scriptsAtTheLastDay();
        scriptsByTheRulingText();
        yearsRefused();
        yearsOnTheLastDay();
        yearsWithOneGone();
        yearsBranches();
        thirtySteps();
        undoneAll();
        undoneAgainAndAgain();
        housesToldSince();
        Due.finish();
    }

    private static ShutDays street(int many) {
        ShutDays x = new ShutDays();
        for (int i = 0; i < many; i++) {
            x.house(i, -1, -1, 100 * i, 10 * i);
        }
        return x;
    }

    private static void toTheLastDay(ShutDays x) {
        for (int i = 0; i < 166; i++) {
            x.day(60);
        }
        Due.due("the last day", x.day(39), 19);
    }

    private static void friendsAtTheirLimits() {
        ShutDays x = new ShutDays();
        x.house(0, -1, -1, 0, 1);
        x.house(1, -1, -1, 0, 98);
        x.house(1, -1, -1, 0, 48);
        x.knock(0);
        Due.due("1 less 1", x.of(0, 2), 0);
        Due.due("shut all the same", x.knock(0), 1);
        Due.due("0 at least", x.of(0, 2), 0);
        x.knock(2);
        Due.due("48 and 1", x.of(2, 2), 49);
        x.knock(2);
        Due.due("49 and 1", x.of(2, 2), 50);
        Due.due("open all the same", x.knock(2), 0);
        Due.due("50 aren't below 50", x.of(2, 2), 50);
        Due.told(x, "lets 1 = 1;");
        x.by(0);
        x.knock(1);
        Due.due("98 and 1", x.of(1, 2), 99);
        x.knock(1);
        Due.due("99 at most", x.of(1, 2), 99);
        Due.due("each knock is in the book", x.book(-1, 0), 7);
        x.day(1);
        Due.due("shut today", x.knock(1), 1);
        Due.due("99 less 1", x.of(1, 2), 98);
        Due.due("a shut house lets nobody in", x.knock(2), 1);
        Due.due("50 less 1", x.of(2, 2), 49);
    }

    private static void knocksRefused() {
        ShutDays x = street(3);
        x.marry(1, 2);
        for (int house : new int[] {Integer.MIN_VALUE, -2, -1, 1, 3, 7, 32, Integer.MAX_VALUE}) {
            Due.due("knock(" + house + ")", x.knock(house), -1);
        }
        Due.due("nothing is written", x.book(-1, 0), 0);
        Due.due("no step", x.about(3), 1);
        Due.due("friends", x.of(1, 2), 10);
    }

    private static void knockChangesNoMore() {
        ShutDays x = street(3);
        x.knock(0);
        x.knock(1);
        Due.due("day", x.is(0), 0);
        Due.due("x", x.is(2), 131);
        Due.due("purse", x.of(1, 1), 100);
        Due.due("another's friends", x.of(2, 2), 20);
        Due.due("dates", x.of(0, 0), 1);
        Due.due("steps", x.about(3), 2);
    }

    private static void mergedDates() {
        int[][] rows = {
            // dates of the first, of the other, what is due
            {-1, -1, -1, -1, -1, -1, 0},
            {5, -1, -1, -1, -1, -1, 32},
            {-1, -1, -1, 5, -1, -1, 32},
            {5, -1, -1, 5, -1, -1, 32},
            {0, 1, 2, -1, -1, -1, 7},
            {0, 1, -1, 2, -1, -1, 7},
            {0, 1, -1, 2, 3, -1, -1},
            {0, 1, 2, 3, -1, -1, -1},
            {0, 1, 2, 3, 4, 5, -1},
            {0, 1, 2, 2, 3, 4, 4},
            {0, 1, 2, 1, 2, 3, 6},
            {0, 1, 2, 2, 1, 0, 7},
            {19, 1, 2, 19, 4, 5, 1 << 19},
            {19, -1, -1, 0, -1, -1, 1 << 19 | 1},
        };
        for (int[] r : rows) {
            ShutDays x = new ShutDays();
            x.house(r[0], r[1], r[2], 1, 1);
            x.house(r[3], r[4], r[5], 2, 2);
            int first = x.of(0, 0);
            int other = x.of(1, 0);
            Due.due("marry", x.marry(0, 1), r[6]);
            Due.due("its dates", x.of(1, 0), r[6] < 0 ? other : r[6]);
            Due.due("the first's dates", x.of(0, 0), first);
            Due.due("gone", x.of(0, 3), r[6] < 0 ? 0 : 1);
            Due.due("steps", x.about(3), r[6] < 0 ? 0 : 1);
            Due.due("purse", x.of(1, 1), r[6] < 0 ? 2 : 3);
            Due.due("friends", x.of(1, 2), r[6] < 0 ? 2 : 3);
        }
    }

    private static void mergedPurses() {
        int[][] rows = {{0, 0, 0, 0}, {5000, 4999, 50, 49}, {5000, 5000, 50, 50}, {9999, 9999, 99, 99}, {9999, 0, 0, 99}};
        for (int[] r : rows) {
            ShutDays x = new ShutDays();
            x.house(5, -1, -1, r[0], r[2]);
            x.house(5, -1, -1, r[1], r[3]);
            x.marry(1, 0);
            Due.due("purse", x.of(0, 1), Math.min(9999, r[0] + r[1]));
            Due.due("friends", x.of(0, 2), Math.min(99, r[2] + r[3]));
        }
    }

    private static void marriagesRefused() {
        ShutDays x = street(4);
        x.marry(0, 1);
        int[][] rows = {{0, 2}, {2, 0}, {1, 0}, {0, 1}, {0, 0}, {1, 1}, {2, 2}, {-1, 2}, {2, -1}, {2, 4}, {4, 2}, {7, 2},
            {2, 32}, {34, 2}, {Integer.MIN_VALUE, 2}, {2, Integer.MAX_VALUE}};
        for (int[] r : rows) {
            Due.due("marry(" + r[0] + ", " + r[1] + ")", x.marry(r[0], r[1]), -1);
        }
        Due.due("steps", x.about(3), 1);
        Due.due("not gone", x.of(2, 3), 0);
        Due.due("purse", x.of(2, 1), 200);
    }

    private static void allIntoOne() {
        ShutDays x = new ShutDays();
        for (int i = 0; i < 7; i++) {
            x.house(4, -1, -1, 1000, 10);
        }
        for (int i = 6; i > 0; i--) {
            Due.due("marry", x.marry(i, i - 1), 16);
        }
        Due.due("all of it", x.of(0, 1), 7000);
        Due.due("all of them", x.of(0, 2), 70);
        Due.due("one is open", x.is(3), 1);
        Due.due("alone", x.alone(), 1);
        Due.due("all back", x.undo(), 5);
        Due.due("the second is here", x.of(1, 3), 0);
        Due.due("with what it had", x.of(1, 1), 6000);
        Due.due("the first as it was", x.of(0, 1), 1000);
    }

    private static void hatTillThree() {
        ShutDays x = new ShutDays();
        x.house(-1, -1, -1, 0, 0);
        int drawn = 131;
        int bits = 0;
        for (int i = 0; i < 3; i++) {
            while ((bits >> drawn % 20 & 1) == 1) {
                drawn = next(drawn);
            }
            int date = drawn % 20;
            drawn = next(drawn);
            bits |= 1 << date;
            Due.due("hat", x.hat(0), date);
            Due.due("dates", x.of(0, 0), bits);
            Due.due("x", x.is(2), drawn);
        }
        Due.due("three are enough", x.hat(0), -1);
        Due.due("x", x.is(2), drawn);
        Due.due("steps", x.about(3), 3);
        x.forget(Integer.numberOfTrailingZeros(bits), 0);
        Due.due("room again", x.hat(0) >= 0, true);
    }

    private static int next(int x) {
        return (x * 359 + 239) % 30431;
    }

    private static void hatsRefused() {
        ShutDays x = street(3);
        x.marry(0, 1);
        x.house(1, 2, 3, 0, 0);
        for (int house : new int[] {Integer.MIN_VALUE, -2, -1, 0, 3, 4, 7, 33, Integer.MAX_VALUE}) {
            Due.due("hat(" + house + ")", x.hat(house), -1);
        }
        Due.due("no draw", x.is(2), 131);
        Due.due("no step", x.about(3), 1);
    }

    /** 131 draws 11, 16837 draws 17, 19384 draws 4: what it has is passed over. */
    private static void hatOverItsDates() {
        ShutDays x = new ShutDays();
        x.house(11, 17, -1, 0, 0);
        Due.due("the third draw", x.hat(0), 4);
        Due.due("three draws", x.is(2), next(19384));
        x.undo();
        Due.due("x is back", x.is(2), 131);
        Due.due("the same again", x.hat(0), 4);
        ShutDays y = new ShutDays();
        y.house(17, -1, -1, 0, 0);
        Due.due("the first draw", y.hat(0), 11);
        Due.due("one draw", y.is(2), 16837);
        Due.due("17 is passed over", y.hat(0), 4);
    }

    private static void forgetting() {
        ShutDays x = new ShutDays();
        x.house(0, 19, 7, 0, 0);
        x.house(0, -1, -1, 0, 0);
        x.marry(1, 0);
        Due.due("what both have", x.of(0, 0), 1);
        x.undo();
        int[][] wrong = {{-1, 0}, {20, 0}, {1, 0}, {0, 2}, {0, -1}, {32, 0}, {39, 0}, {Integer.MIN_VALUE, 0},
            {Integer.MAX_VALUE, 0}, {0, Integer.MAX_VALUE}, {0, Integer.MIN_VALUE}, {0, 32}};
        for (int[] w : wrong) {
            Due.due("forget(" + w[0] + ", " + w[1] + ")", x.forget(w[0], w[1]), false);
        }
        Due.due("no step", x.about(3), 0);
        Due.due("0", x.forget(0, 0), true);
        Due.due("19", x.forget(19, 0), true);
        Due.due("7", x.forget(7, 0), true);
        Due.due("none is left", x.forget(7, 0), false);
        Due.due("no dates", x.of(0, 0), 0);
        Due.due("steps", x.about(3), 3);
        Due.due("the other one keeps its own", x.of(1, 0), 1);
        x.marry(1, 0);
        Due.due("one that's gone keeps it", x.forget(0, 1), false);
    }

    private static void howManyDays() {
        ShutDays x = street(1);
        for (int n : new int[] {Integer.MIN_VALUE, -1, 0, 61, 1000, Integer.MAX_VALUE}) {
            Due.due("day(" + n + ")", x.day(n), -1);
        }
        Due.due("nothing is done", x.is(0), 0);
        Due.due("no step", x.about(3), 0);
        Due.due("day(1)", x.day(1), 1);
        Due.due("day(60)", x.day(60), 1);
        Due.due("61", x.is(0), 61);
    }

    private static void yearsEnd() {
        ShutDays x = street(1);
        Due.due("day(19)", x.day(19), 19);
        Due.due("the next is 0", x.day(1), 0);
        Due.due("shut on it again", x.of(0, 4), 1);
        Due.due("a year", x.day(20), 0);
        Due.due("day", x.is(0), 40);
    }

    private static void pursesAtTheirLimits() {
        ShutDays x = new ShutDays();
        x.house(0, -1, -1, 2, 0);
        x.house(0, -1, -1, 1, 0);
        x.house(9, -1, -1, 9998, 0);
        x.house(9, -1, -1, 9997, 0);
        x.day(1);
        Due.due("2 less 2", x.of(0, 1), 0);
        Due.due("1 less 2: 0 at least", x.of(1, 1), 0);
        Due.due("9998 and 2: 9999 at most", x.of(2, 1), 9999);
        Due.due("9997 and 2", x.of(3, 1), 9999);
        x.day(1);
        Due.due("still", x.of(2, 1), 9999);
        x.undo();
        x.undo();
        Due.due("as it was", x.of(2, 1), 9998);
        Due.due("as it was", x.of(1, 1), 1);
    }

    private static void theLastDays() {
        ShutDays x = street(2);
        toTheLastDay(x);
        Due.due("date", x.is(1), 19);
        int purse = x.of(0, 1);
        int steps = x.about(3);
        Due.due("none can pass", x.day(1), -1);
        Due.due("none can pass", x.day(60), -1);
        Due.due("nothing is done", x.is(0), 9999);
        Due.due("no step", x.about(3), steps);
        Due.due("no purse", x.of(0, 1), purse);
        Due.due("a knock can be", x.knock(0), 0);
        Due.due("a hat can be", x.hat(0) >= 0, true);
        Due.due("its day", x.book(0, 0), 9999);
        x.undo();
        x.undo();
        for (int left = 1; left <= 3; left++) {
            x.undo();
            Due.due("one too many", x.day(left + 1), -1);
            Due.due("nothing is done", x.is(0), 9999 - left);
        }
        Due.due("all that are left", x.day(3), 19);
        Due.due("9999", x.is(0), 9999);
    }

    private static void eachDayIsAStep() {
        ShutDays x = street(1);
        x.day(5);
        Due.due("five", x.about(3), 5);
        Due.due("one back", x.undo(), 4);
        Due.due("day 4", x.is(0), 4);
        x.day(60);
        Due.due("30 at most", x.about(3), 30);
        for (int i = 29; i >= 0; i--) {
            Due.due("undo", x.undo(), i);
            Due.due("day", x.is(0), 34 + i);
        }
        Due.due("no more", x.undo(), -1);
        Due.due("day", x.is(0), 34);
    }

    private static void scriptsEnd() {
        ShutDays x = new ShutDays();
        for (int text : new int[] {Integer.MIN_VALUE, -2, -1, 0, 1, 4, Integer.MAX_VALUE}) {
            Due.due("played(" + text + ")", x.played(text), -2);
        }
        Due.told(x, "knock 0; day 1;");
        Due.due("the first can't be", x.played(0), 0);
        Due.due("nothing was done", x.is(0), 0);
        Due.told(x, "earns 1; day 1; loses 1; hat 6;");
        Due.due("laws are counted", x.played(1), 3);
        Due.due("what was done stays", x.is(0), 1);
        Due.told(x, "earns 1; loses 1; lets 1 = 1;");
        Due.due("laws alone: all is done", x.played(2), -1);
        Due.due("steps", x.about(3), 1);
        Due.told(x, "house 3 purse 4 friends 5; marry 0 to 0;");
        Due.due("with itself", x.played(3), 1);
        Due.due("one house", x.about(0), 1);
        Due.due("its one date", x.of(0, 0), 8);
        Due.due("its purse", x.of(0, 1), 4);
        Due.due("its friends", x.of(0, 2), 5);
        Due.due("again", x.played(3), 1);
        Due.due("two houses", x.about(0), 2);
        Due.due("a house is no step", x.about(3), 1);
        Due.due("a knock now", x.played(0), -1);
    }

    private static void scriptsAtTheLastDay() {
        ShutDays x = street(1);
        toTheLastDay(x);
        x.undo();
        x.undo();
        Due.due("two are left", x.is(0), 9997);
        int steps = x.about(3);
        Due.told(x, "day 3; knock 0;");
        Due.due("the third can't pass", x.played(0), 0);
        Due.due("those that can do", x.is(0), 9999);
        Due.due("each is a step", x.about(3), Math.min(30, steps + 2));
        Due.due("the knock isn't done", x.book(-1, 0), 0);
        Due.due("none can", x.played(0), 0);
        x.undo();
        x.undo();
        Due.told(x, "day 2; knock 0; day 1; knock 0;");
        Due.due("the last clause but one", x.played(1), 2);
        Due.due("one knock", x.book(-1, 0), 1);
    }

    private static void scriptsByTheRulingText() {
        ShutDays x = new ShutDays();
        x.house(-1, -1, -1, 0, 10);
        Due.told(x, "earns 50; lets 1 = 2; day 1; knock 0;");
        Due.told(x, "earns 7;");
        x.by(1);
        x.played(0);
        Due.due("by the one that rules", x.of(0, 1), 7);
        Due.due("let in by its usual law", x.of(0, 2), 11);
        x.by(0);
        x.played(0);
        Due.due("by itself now", x.of(0, 1), 57);
        Due.due("not let in", x.of(0, 2), 11);
    }

    private static void yearsRefused() {
        ShutDays x = street(2);
        int[][] wrong = {{-1, 1}, {10000, 1}, {0, 0}, {0, 41}, {0, -1}, {Integer.MIN_VALUE, 1}, {Integer.MAX_VALUE, 1},
            {0, Integer.MIN_VALUE}, {0, Integer.MAX_VALUE}};
        for (int[] w : wrong) {
            Due.due("years(" + w[0] + ", " + w[1] + ")", x.years(w[0], w[1]), -1);
        }
        Due.due("no step", x.about(3), 0);
        Due.due("x", x.is(2), 131);
        Due.due("the least", x.years(0, 1), 1);
        Due.due("x", x.is(2), next(131));
        // 20129 mod 6 is 5: a day.
        Due.due("the most", x.years(9999, 1), 2);
        Due.due("x", x.is(2), next(20129));
        Due.due("forty", x.years(0, 40) >= 2, true);
        Due.due("three steps", x.about(3), 3);
    }

    private static void yearsOnTheLastDay() {
        ShutDays x = street(1);
        toTheLastDay(x);
        // 131 mod 6 is 5: a day, which can't pass.
        Due.due("no day", x.years(0, 1), 9999);
        Due.due("x all the same", x.is(2), next(131));
        Due.due("back", x.undo() >= 0, true);
        Due.due("x is back", x.is(2), 131);
        x.undo();
        Due.due("9998", x.is(0), 9998);
        Due.due("one of many", x.years(0, 40), 9999);
    }

    /** 133 mod 6 is 1, 133 mod 3 is 1: a knock at house 1 of three. */
    private static void yearsWithOneGone() {
        ShutDays x = street(3);
        x.years(1, 1);
        Due.due("a knock", x.book(-1, 0), 1);
        Due.due("at 1", x.book(0, 1), 1);
        x.undo();
        x.marry(1, 2);
        Due.due("it can't be", x.years(1, 1), 0);
        Due.due("no knock", x.book(-1, 0), 0);
        Due.due("a step all the same", x.about(3), 2);
        Due.due("x", x.is(2), next(133));
    }

    /** All seeds for one turn, by what the document says of x mod 6. */
    private static void yearsBranches() {
        for (int seed = 0; seed <= 9999; seed += 7) {
            ShutDays x = new ShutDays();
            x.house(0, 5, 15, 10, 10);
            x.house(3, 9, -1, 10, 10);
            x.house(1, 11, 19, 10, 10);
            int first = seed * 2 + 131;
            int house = first % 3;
            int rest = first % 6;
            boolean had = (x.of(house, 0) >> first % 20 & 1) == 1;
            Due.due("years(" + seed + ", 1)", x.years(seed, 1), rest >= 4 ? 1 : 0);
            Due.due("knocks", x.knocks(house, house == 0), rest <= 1 ? 1 : 0);
            Due.due("friends", x.of(house, 2), rest <= 1 ? house == 0 ? 9 : 11 : 10);
            Due.due("forgotten", (x.of(house, 0) >> first % 20 & 1) == 1, had && rest != 3);
            Due.due("x", x.is(2), next(first));
        }
    }

    private static void thirtySteps() {
        ShutDays x = street(1);
        for (int i = 1; i <= 29; i++) {
            x.knock(0);
        }
        Due.due("29", x.about(3), 29);
        x.knock(0);
        Due.due("30", x.about(3), 30);
        x.knock(0);
        Due.due("30 at most", x.about(3), 30);
        Due.due("the latest first", x.undo(), 29);
        Due.due("book", x.book(-1, 0), 30);
        x.knock(0);
        Due.due("30 again", x.about(3), 30);
        for (int i = 29; i >= 0; i--) {
            Due.due("undo", x.undo(), i);
        }
        Due.due("the first stays", x.book(-1, 0), 1);
        Due.due("none", x.undo(), -1);
        Due.due("nothing is done", x.book(-1, 0), 1);
    }

    /** Each kind of step by itself: all is as ahead of it. */
    private static void undoneAll() {
        for (int kind = 0; kind < 7; kind++) {
            ShutDays x = new ShutDays();
            x.house(1, 2, -1, 50, 50);
            x.house(2, 3, -1, 60, 60);
            x.day(2);
            x.knock(1);
            long was = all(x);
            switch (kind) {
                case 0:
                    x.day(1);
                    break;
                case 1:
                    x.knock(0);
                    break;
                case 2:
                    x.marry(0, 1);
                    break;
                case 3:
                    x.hat(0);
                    break;
                case 4:
                    x.forget(2, 0);
                    break;
                case 5:
                    x.years(123, 40);
                    break;
                default:
                    x.marry(1, 0);
                    break;
            }
            Due.due("something was done by " + kind, all(x) != was, true);
            Due.due("a step of " + kind, x.undo(), 3);
            Due.due("as ahead of " + kind, all(x), was);
        }
    }

    private static long all(ShutDays x) {
        long sum = 0;
        for (int h = 0; h < 2; h++) {
            for (int what = 0; what < 4; what++) {
                sum = sum * 1000003 + x.of(h, what);
            }
        }
        for (int i = -1; i < 3; i++) {
            for (int what = 0; what < 3; what++) {
                sum = sum * 1000003 + x.book(i, what);
            }
        }
        return (sum * 1000003 + x.is(0)) * 1000003 + x.is(2);
    }

    private static void undoneAgainAndAgain() {
        ShutDays x = street(2);
        for (int i = 0; i < 40; i++) {
            x.day(1);
            Due.due("undo", x.undo(), 0);
        }
        Due.due("day", x.is(0), 0);
        Due.due("none", x.undo(), -1);
        Due.due("a refused deed is none", x.knock(5), -1);
        Due.due("none", x.undo(), -1);
    }

    private static void housesToldSince() {
        ShutDays x = street(1);
        x.day(1);
        Due.due("told since", x.house(7, -1, -1, 70, 7), 1);
        x.day(1);
        Due.due("and another", x.house(1, -1, -1, 5, 5), 2);
        x.marry(2, 1);
        x.marry(1, 0);
        x.undo();
        x.undo();
        Due.due("it is here", x.of(2, 3), 0);
        x.undo();
        Due.due("day", x.is(0), 1);
        Due.due("as told", x.of(1, 1), 70);
        Due.due("as told", x.of(2, 1), 5);
        x.undo();
        Due.due("day", x.is(0), 0);
        Due.due("three", x.about(0), 3);
        Due.due("as told", x.of(1, 0), 128);
        Due.due("as told", x.of(1, 1), 70);
        Due.due("as told", x.of(2, 2), 5);
        Due.due("the next one's number", x.house(-1, -1, -1, 0, 0), 3);
    }
}

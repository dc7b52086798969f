/** Edges of promises 19 to 25: the least and most of n and h, the year's end, the last day, like ones, gone ones. */
public final class ForecastEdgesTest {
    private static final int ALL = 1048575;

    public static void main(String[] args) {
        foretoldRefused();
        foretoldAtItsLimits();
        foretoldToTheLastDay();
        foretoldOfOneGone();
        indoorsRefused();
        indoorsTodayAndAYearOn();
        indoorsOfSeven();
        indoorsOnTheLastDay();
        crowdedLikeOnes();
        crowdedWithOneGone();
        feastEdges();
        feastOnTheLastDate();
        crowdedOnEachDate();
        feastWithOneGone();
        aloneEdges();
        nobodysEdges();
        poorestRefused();
        poorestOfLikeOnes();
        poorestToTheLastDay();
        Due.finish();
    }

    private static void toTheLastDay(ShutDays x) {
        for (int i = 0; i < 166; i++) {
            x.day(60);
        }
        Due.due("the last day", x.day(39), 19);
    }

    private static void foretoldRefused() {
        ShutDays x = new ShutDays();
        x.house(0, -1, -1, 5, 5);
        int[][] wrong = {{0, 0}, {-1, 0}, {61, 0}, {1, 1}, {1, -1}, {1, 7}, {Integer.MIN_VALUE, 0}, {Integer.MAX_VALUE, 0},
            {1, Integer.MIN_VALUE}, {1, Integer.MAX_VALUE}, {1, 32}};
        for (int[] w : wrong) {
            Due.due("foretold(" + w[0] + ", " + w[1] + ")", x.foretold(w[0], w[1]), -1);
        }
        Due.due("the least", x.foretold(1, 0), 3);
        // Days 0, 20, 40 shut (less 2), 57 days open (more 1).
        Due.due("the most", x.foretold(60, 0), 5 - 6 + 57);
    }

    private static void foretoldAtItsLimits() {
        ShutDays x = new ShutDays();
        x.house(0, 1, 2, 3, 0);
        x.house(-1, -1, -1, 9997, 0);
        Due.due("3 less 2", x.foretold(1, 0), 1);
        Due.due("0 at least", x.foretold(2, 0), 0);
        Due.due("0 at least", x.foretold(3, 0), 0);
        Due.due("open again: 1 and 1", x.foretold(4, 0), 2);
        Due.due("9997 and 1", x.foretold(1, 1), 9998);
        Due.due("9998 and 1", x.foretold(2, 1), 9999);
        Due.due("9999 at most", x.foretold(3, 1), 9999);
        Due.told(x, "earns 0; loses 99;");
        x.by(0);
        Due.due("3 less 99", x.foretold(1, 0), 0);
        Due.due("earns nothing", x.foretold(60, 0), 0);
        Due.due("no day has passed", x.is(0), 0);
        Due.due("no step", x.about(3), 0);
    }

    private static void foretoldToTheLastDay() {
        ShutDays x = new ShutDays();
        x.house(-1, -1, -1, 0, 0);
        Due.told(x, "earns day - 9990;");
        x.by(0);
        toTheLastDay(x);
        x.undo();
        x.undo();
        Due.due("9997", x.is(0), 9997);
        int purse = x.of(0, 1);
        Due.due("one", x.foretold(1, 0), purse + 7);
        Due.due("two", x.foretold(2, 0), purse + 15);
        Due.due("those that can pass", x.foretold(3, 0), purse + 15);
        Due.due("those that can pass", x.foretold(60, 0), purse + 15);
        x.day(2);
        Due.due("none can", x.foretold(1, 0), purse + 15);
        Due.due("none can", x.foretold(60, 0), purse + 15);
    }

    private static void foretoldOfOneGone() {
        ShutDays x = new ShutDays();
        x.house(0, -1, -1, 5, 5);
        x.house(0, -1, -1, 7, 5);
        x.house(0, -1, -1, 7, 5);
        x.marry(1, 0);
        Due.due("no day earns it anything", x.foretold(60, 1), 7);
        Due.due("nothing beside its neighbour", x.foretold(2, 2), 7 - 2 + 1);
    }

    private static void indoorsRefused() {
        ShutDays x = new ShutDays();
        for (int i = 0; i < 7; i++) {
            x.house(0, -1, -1, 0, 0);
        }
        for (int h : new int[] {Integer.MIN_VALUE, -1, 0, 8, 9, Integer.MAX_VALUE}) {
            Due.due("indoors(" + h + ")", x.indoors(h), -1);
        }
        Due.due("indoors(1)", x.indoors(1), 0);
        Due.due("indoors(7)", x.indoors(7), 0);
    }

    private static void indoorsTodayAndAYearOn() {
        ShutDays x = new ShutDays();
        x.house(3, -1, -1, 0, 0);
        x.house(19, -1, -1, 0, 0);
        Due.due("in three days", x.indoors(1), 3);
        x.day(3);
        Due.due("today", x.indoors(1), 0);
        x.day(1);
        Due.due("on 19", x.indoors(1), 15);
        x.day(15);
        Due.due("on 19, today", x.indoors(1), 0);
        x.day(1);
        Due.due("3 of the next year", x.indoors(1), 3);
        x.forget(19, 1);
        x.day(4);
        Due.due("not before the next year's 3", x.indoors(1), 19);
        Due.due("two never are", x.indoors(2), -1);
    }

    private static void indoorsOfSeven() {
        ShutDays x = new ShutDays();
        for (int i = 0; i < 7; i++) {
            x.house(6, i < 3 ? 4 : -1, i < 2 ? 2 : -1, 0, 0);
        }
        int[] want = {2, 2, 4, 6, 6, 6, 6};
        for (int h = 1; h <= 7; h++) {
            Due.due("indoors(" + h + ")", x.indoors(h), want[h - 1]);
        }
        x.marry(6, 5);
        Due.due("six are left", x.indoors(7), -1);
        Due.due("six", x.indoors(6), 6);
    }

    /** The dates go on, though no day can pass any more. */
    private static void indoorsOnTheLastDay() {
        ShutDays x = new ShutDays();
        x.house(0, -1, -1, 0, 0);
        toTheLastDay(x);
        Due.due("date 0 would be tomorrow", x.indoors(1), 1);
        x.house(19, -1, -1, 0, 0);
        Due.due("date 19 is today", x.indoors(1), 0);
    }

    private static void crowdedLikeOnes() {
        ShutDays x = new ShutDays();
        x.house(-1, -1, -1, 0, 0);
        Due.due("no dates: the lowest", x.crowded(false), 0);
        Due.due("none", x.crowded(true), 0);
        x.house(19, 18, -1, 0, 0);
        Due.due("of like ones the lowest", x.crowded(false), 18);
        Due.due("one", x.crowded(true), 1);
        x.house(19, -1, -1, 0, 0);
        Due.due("19", x.crowded(false), 19);
        Due.due("two", x.crowded(true), 2);
        for (int i = 0; i < 4; i++) {
            x.house(19, -1, -1, 0, 0);
        }
        Due.due("six", x.crowded(true), 6);
    }

    private static void crowdedWithOneGone() {
        ShutDays x = new ShutDays();
        x.house(5, 7, -1, 0, 0);
        x.house(5, 8, -1, 0, 0);
        x.house(2, 8, -1, 0, 0);
        Due.due("5", x.crowded(false), 5);
        x.marry(0, 1);
        Due.due("what both had is one's now", x.of(1, 0), 32);
        Due.due("2 is the lowest of one each", x.crowded(false), 2);
        Due.due("one", x.crowded(true), 1);
    }

    private static void feastEdges() {
        ShutDays x = new ShutDays();
        x.house(0, -1, -1, 0, 0);
        Due.due("no friends: the lowest", x.feast(false), 0);
        Due.due("none", x.feast(true), 0);
        for (int i = 0; i < 6; i++) {
            x.house(i, -1, -1, 0, 99);
        }
        Due.due("all open from 6 on", x.feast(false), 6);
        Due.due("all of them", x.feast(true), 594);
        ShutDays y = new ShutDays();
        y.house(0, 2, -1, 0, 10);
        y.house(1, -1, -1, 0, 11);
        for (int i = 0; i < 5; i++) {
            y.house(3 + 3 * i, 4 + 3 * i, 5 + 3 * i, 0, 20 + i);
        }
        Due.due("18 and 19 are nobody's", y.feast(false), 18);
        Due.due("how many", y.feast(true), 10 + 11 + 110);
    }

    /** All dates but the last are somebody's. */
    private static void feastOnTheLastDate() {
        ShutDays x = new ShutDays();
        for (int i = 0; i < 6; i++) {
            x.house(3 * i, 3 * i + 1, 3 * i + 2, 0, 1);
        }
        x.house(18, -1, -1, 0, 1);
        Due.due("19", x.feast(false), 19);
        Due.due("all seven", x.feast(true), 7);
        x.day(19);
        Due.due("whatever day it is", x.feast(false), 19);
    }

    private static void crowdedOnEachDate() {
        for (int date = 0; date < 20; date++) {
            ShutDays x = new ShutDays();
            x.house(date, -1, -1, 0, 0);
            x.day(7);
            Due.due("the one date", x.crowded(false), date);
            Due.due("one", x.crowded(true), 1);
            Due.due("all but it", x.nobodys(), ALL & ~(1 << date));
            Due.due("in how many days", x.indoors(1), (date + 20 - 7) % 20);
            Due.due("open on the lowest other", x.feast(false), 0);
        }
    }

    private static void feastWithOneGone() {
        ShutDays x = new ShutDays();
        x.house(0, -1, -1, 0, 60);
        x.house(0, 1, -1, 0, 60);
        x.house(2, -1, -1, 0, 5);
        Due.due("before", x.feast(true), 125);
        Due.due("before", x.feast(false), 3);
        x.marry(1, 0);
        Due.due("99 at most of the two", x.feast(true), 104);
        Due.due("1 is free of it", x.feast(false), 1);
    }

    private static void aloneEdges() {
        ShutDays x = new ShutDays();
        x.house(-1, -1, -1, 0, 0);
        Due.due("one without dates", x.alone(), 1);
        x.house(-1, -1, -1, 0, 0);
        Due.due("two share none", x.alone(), 3);
        x.house(0, 19, 5, 0, 0);
        x.house(1, 18, 6, 0, 0);
        Due.due("none is shared", x.alone(), 15);
        x.house(19, -1, -1, 0, 0);
        Due.due("19 is shared", x.alone(), 11);
        x.house(7, -1, -1, 0, 0);
        x.house(8, 1, -1, 0, 0);
        Due.due("all seven", x.alone(), 3 | 32);
        x.marry(6, 3);
        Due.due("with one that's gone it isn't shared", x.alone(), 3 | 8 | 32);
        x.marry(4, 2);
        Due.due("with one that's gone it isn't shared", x.alone(), 3 | 4 | 8 | 32);
        Due.due("one that's gone isn't told", x.alone() >> 4 & 1, 0);
    }

    private static void nobodysEdges() {
        ShutDays x = new ShutDays();
        x.house(-1, -1, -1, 0, 0);
        Due.due("all", x.nobodys(), ALL);
        x.house(0, 19, -1, 0, 0);
        Due.due("the first and the last", x.nobodys(), ALL & ~(1 | 1 << 19));
        x.house(0, -1, -1, 0, 0);
        x.marry(1, 2);
        Due.due("19 went with it", x.nobodys(), ALL & ~1);
        ShutDays y = new ShutDays();
        for (int i = 0; i < 6; i++) {
            y.house(3 * i, 3 * i + 1, 3 * i + 2, 0, 0);
        }
        Due.due("two are left", y.nobodys(), 1 << 18 | 1 << 19);
        y.house(18, 19, -1, 0, 0);
        Due.due("none is left", y.nobodys(), 0);
        y.forget(0, 0);
        Due.due("0 is", y.nobodys(), 1);
    }

    private static void poorestRefused() {
        ShutDays x = new ShutDays();
        x.house(0, -1, -1, 5, 5);
        for (int n : new int[] {Integer.MIN_VALUE, -1, 0, 61, Integer.MAX_VALUE}) {
            Due.due("poorest(" + n + ")", x.poorest(n), -1);
        }
        Due.due("poorest(1)", x.poorest(1), 0);
        Due.due("poorest(60)", x.poorest(60), 0);
        Due.due("nothing changed", x.of(0, 1), 5);
    }

    private static void poorestOfLikeOnes() {
        ShutDays x = new ShutDays();
        x.house(-1, -1, -1, 50, 0);
        x.house(0, -1, -1, 1, 0);
        x.house(0, -1, -1, 0, 0);
        Due.due("both have 0: the lowest", x.poorest(1), 1);
        x.marry(1, 0);
        Due.due("the one that's gone isn't told", x.poorest(1), 2);
        x.marry(2, 0);
        Due.due("the one that's left", x.poorest(60), 0);
    }

    private static void poorestToTheLastDay() {
        ShutDays x = new ShutDays();
        Due.told(x, "earns 0; loses 0;");
        x.by(0);
        toTheLastDay(x);
        x.house(-1, -1, -1, 10, 0);
        x.house(-1, -1, -1, 5, 0);
        Due.told(x, "earns house * 10;");
        x.by(1);
        Due.due("no day can pass", x.poorest(60), 1);
        x.undo();
        Due.due("one can", x.poorest(60), 0);
    }
}

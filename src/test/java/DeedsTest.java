/** Promises 8 to 15 and 18: knock, marry, hat, forget, day, played, years, undo, book. */
public final class DeedsTest {
    public static void main(String[] args) {
        knocks();
        theBook();
        marriages();
        hats();
        forgotten();
        days();
        lastDay();
        played();
        playedAsFar();
        years();
        undone();
        undoneHouses();
        Due.finish();
    }

    private static void knocks() {
        ShutDays x = new ShutDays();
        Due.due("knock(0) without", x.knock(0), -1);
        x.house(0, -1, -1, 1, 0);
        x.house(5, -1, -1, 1, 49);
        x.house(5, 6, -1, 1, 99);
        Due.due("shut", x.knock(0), 1);
        Due.due("friends 0 at least", x.of(0, 2), 0);
        Due.due("open", x.knock(1), 0);
        Due.due("one more", x.of(1, 2), 50);
        Due.due("open", x.knock(1), 0);
        Due.due("not let in", x.of(1, 2), 50);
        Due.told(x, "lets friends > 2;");
        x.by(0);
        Due.due("open", x.knock(2), 0);
        Due.due("99 at most", x.of(2, 2), 99);
        x.day(5);
        Due.due("shut then", x.knock(2), 1);
        Due.due("one less", x.of(2, 2), 98);
        Due.due("open then", x.knock(0), 0);
        Due.due("not let in by the text", x.of(0, 2), 0);
        Due.due("knock(3)", x.knock(3), -1);
        Due.due("knock(-1)", x.knock(-1), -1);
        x.marry(1, 2);
        Due.due("knock at one that's gone", x.knock(1), -1);
        Due.due("book(-1, 0)", x.book(-1, 0), 6);
        Due.due("steps", x.about(3), 12);
    }

    private static void theBook() {
        ShutDays x = new ShutDays();
        x.house(2, -1, -1, 1, 0);
        x.house(3, -1, -1, 1, 0);
        Due.due("book(0, 0) without", x.book(0, 0), -2);
        Due.due("book(-1, 0) without", x.book(-1, 0), 0);
        for (int i = 0; i < 41; i++) {
            x.knock(i % 2);
            x.day(1);
        }
        Due.due("40 at most", x.book(-1, 0), 40);
        Due.due("how many, whatever is asked", x.book(-1, 9), 40);
        for (int i = 0; i < 40; i++) {
            Due.due("day " + i, x.book(i, 0), i + 1);
            Due.due("house " + i, x.book(i, 1), (i + 1) % 2);
            int date = (i + 1) % 20;
            Due.due("shut " + i, x.book(i, 2), (i + 1) % 2 == 0 && date == 2 || (i + 1) % 2 == 1 && date == 3 ? 1 : 0);
        }
        Due.due("book(40, 0)", x.book(40, 0), -2);
        Due.due("book(-2, 0)", x.book(-2, 0), -2);
        Due.due("book(0, 3)", x.book(0, 3), -2);
        Due.due("book(0, -1)", x.book(0, -1), -2);
    }

    private static void marriages() {
        ShutDays x = new ShutDays();
        x.house(1, 2, 3, 9000, 60);
        x.house(2, 3, 4, 1000, 40);
        x.house(7, 8, -1, 5, 5);
        x.house(9, -1, -1, 6, 6);
        x.house(-1, -1, -1, 7, 7);
        Due.due("too many dates", x.marry(1, 2), -1);
        Due.due("with itself", x.marry(1, 1), -1);
        Due.due("with one that isn't there", x.marry(1, 5), -1);
        Due.due("one that isn't there", x.marry(-1, 1), -1);
        Due.due("no step", x.about(3), 0);
        Due.due("what both have", x.marry(0, 1), 12);
        Due.due("dates", x.of(1, 0), 12);
        Due.due("purse 9999 at most", x.of(1, 1), 9999);
        Due.due("friends 99 at most", x.of(1, 2), 99);
        Due.due("gone", x.of(0, 3), 1);
        Due.due("not gone", x.of(1, 3), 0);
        Due.due("once more", x.marry(0, 1), -1);
        Due.due("into one that's gone", x.marry(1, 0), -1);
        Due.due("what either has", x.marry(2, 3), 896);
        Due.due("purse", x.of(3, 1), 11);
        Due.due("friends", x.of(3, 2), 11);
        Due.due("one without dates", x.marry(4, 3), 896);
        Due.due("steps", x.about(3), 3);
        x.house(-1, -1, -1, 0, 0);
        x.house(-1, -1, -1, 0, 0);
        Due.due("no dates at all", x.marry(5, 6), 0);
    }

    private static void hats() {
        ShutDays x = new ShutDays();
        Due.due("hat(0) without", x.hat(0), -1);
        x.house(11, -1, -1, 0, 0);
        x.house(1, 2, 3, 0, 0);
        Due.due("three dates", x.hat(1), -1);
        Due.due("no draw", x.is(2), 131);
        Due.due("no step", x.about(3), 0);
        // 131 draws 11, which it has; 16837 draws 17.
        Due.due("the second draw", x.hat(0), 17);
        Due.due("two draws", x.is(2), 19384);
        Due.due("dates", x.of(0, 0), 1 << 11 | 1 << 17);
        Due.due("19384 draws 4", x.hat(0), 4);
        Due.due("three now", x.hat(0), -1);
        Due.due("steps", x.about(3), 2);
        Due.due("hat(-1)", x.hat(-1), -1);
        Due.due("hat(2)", x.hat(2), -1);
        x.house(4, -1, -1, 0, 0);
        x.marry(2, 0);
        Due.due("one that's gone", x.hat(2), -1);
    }

    private static void forgotten() {
        ShutDays x = new ShutDays();
        x.house(0, 19, -1, 0, 0);
        x.house(0, -1, -1, 0, 0);
        Due.due("one that it hasn't", x.forget(1, 0), false);
        Due.due("no house", x.forget(1, 2), false);
        Due.due("no house", x.forget(0, -1), false);
        Due.due("no date", x.forget(20, 0), false);
        Due.due("no date", x.forget(-1, 0), false);
        Due.due("no date, though 32 bits on", x.forget(32, 0), false);
        Due.due("no step", x.about(3), 0);
        Due.due("forgotten", x.forget(19, 0), true);
        Due.due("dates", x.of(0, 0), 1);
        Due.due("a step", x.about(3), 1);
        x.marry(1, 0);
        Due.due("one that's gone", x.forget(0, 1), false);
        Due.due("its last date", x.forget(0, 0), true);
        Due.due("no dates", x.of(0, 0), 0);
    }

    private static void days() {
        ShutDays x = new ShutDays();
        Due.due("a day without houses", x.day(1), 1);
        x.house(1, 2, -1, 1, 0);
        x.house(-1, -1, -1, 9998, 0);
        x.house(3, -1, -1, 5, 0);
        Due.due("day(0)", x.day(0), -1);
        Due.due("day(-1)", x.day(-1), -1);
        Due.due("day(61)", x.day(61), -1);
        Due.due("is(0)", x.is(0), 1);
        Due.due("day(1)", x.day(1), 2);
        Due.due("0 at least", x.of(0, 1), 0);
        Due.due("9999 at most", x.of(1, 1), 9999);
        Due.due("beside one that's open", x.of(2, 1), 7);
        Due.due("day(60)", x.day(60), 2);
        Due.due("is(0)", x.is(0), 62);
        Due.due("30 steps", x.about(3), 30);
        Due.told(x, "earns purse / 10; loses days * 3;");
        x.by(0);
        x.marry(2, 0);
        Due.due("shut on 1, 2, 3", x.of(0, 0), 14);
        int purse = x.of(0, 1);
        int other = x.of(2, 1);
        x.day(1);
        Due.due("by the text", x.of(0, 1), purse - 9);
        Due.due("one that's gone", x.of(2, 1), other);
        x.day(1);
        Due.due("by the text", x.of(0, 1), purse - 18);
        x.day(1);
        Due.due("its own purse", x.of(0, 1), purse - 18 + Math.min(99, (purse - 18) / 10));
    }

    private static void lastDay() {
        ShutDays x = new ShutDays();
        x.house(0, -1, -1, 0, 0);
        Due.told(x, "day 60;".repeat(24));
        for (int i = 0; i < 6; i++) {
            Due.due("1440 days", x.played(0), -1);
        }
        Due.due("8640", x.is(0), 8640);
        Due.due("ended by the 23rd", x.played(0), 22);
        Due.due("9999", x.is(0), 9999);
        Due.due("none can pass", x.day(1), -1);
        Due.due("ended at once", x.played(0), 0);
        Due.due("foretold", x.foretold(60, 0), x.of(0, 1));
        Due.due("whose", x.whose(60), 0);
        Due.due("richest, date 0 is day 10000", x.richest(false), 1);
        Due.due("undo", x.undo(), 29);
        Due.due("day(2) is too many", x.day(2), -1);
        Due.due("nothing is done", x.is(0), 9998);
        Due.due("day(1)", x.day(1), 19);
        x.undo();
        Due.due("years", x.years(0, 40), 9999);
    }

    private static void played() {
        ShutDays x = new ShutDays();
        Due.due("without", x.played(0), -2);
        Due.told(x, "earns 7; house 1 purse 10 friends 3; loses 1; house 4 purse 20 friends 4; knock 0; day 2;"
                + " hat 1; forget 11 of 1; marry 0 to 1; lets 1 = 1;");
        Due.due("all is done", x.played(0), -1);
        Due.due("laws don't rule", x.about(2), -1);
        Due.due("two houses", x.about(0), 2);
        Due.due("both", x.of(1, 0), 18);
        Due.due("purses: 10 + 2 - 2, 20 + 2 + 1", x.of(1, 1), 33);
        Due.due("friends", x.of(1, 2), 8);
        Due.due("day", x.is(0), 2);
        Due.due("steps", x.about(3), 6);
        Due.due("again: the knock at one that's gone", x.played(0), 4);
        Due.due("what was done stays", x.about(0), 4);
        Due.due("played(1)", x.played(1), -2);
        Due.due("played(-1)", x.played(-1), -2);
        Due.told(x, "");
        Due.due("nothing to do", x.played(1), -1);
    }

    private static void playedAsFar() {
        String[] cannot = {"knock 0;", "hat 0;", "forget 1 of 0;", "marry 0 to 1;", "marry 1 to 1;"};
        for (String clause : cannot) {
            ShutDays x = new ShutDays();
            Due.told(x, "day 1; " + clause + " day 1;");
            Due.due(clause, x.played(0), 1);
            Due.due("one day", x.is(0), 1);
            Due.due("one step", x.about(3), 1);
        }
        ShutDays x = new ShutDays();
        Due.told(x, "house 1 purse 2 friends 3;".repeat(8));
        Due.due("the eighth", x.played(0), 7);
        Due.due("seven", x.about(0), 7);
        Due.due("no steps", x.about(3), 0);
        x.hat(0);
        x.hat(0);
        Due.told(x, "knock 0; hat 0; knock 0;");
        Due.due("three dates", x.played(1), 1);
        Due.due("steps", x.about(3), 3);
    }

    private static void years() {
        ShutDays x = new ShutDays();
        Due.due("without houses", x.years(1, 1), -1);
        x.house(3, 5, -1, 10, 5);
        x.house(3, 7, -1, 20, 60);
        x.house(1, -1, -1, 30, 0);
        Due.due("years(-1, 1)", x.years(-1, 1), -1);
        Due.due("years(10000, 1)", x.years(10000, 1), -1);
        Due.due("years(1, 0)", x.years(1, 0), -1);
        Due.due("years(1, 41)", x.years(1, 41), -1);
        Due.due("no step", x.about(3), 0);
        // 131: 5, a day; 16837: 1, a knock at house 1; 19384: 4, a day.
        Due.due("years(0, 3)", x.years(0, 3), 2);
        Due.due("one step", x.about(3), 1);
        Due.due("book", x.book(-1, 0), 1);
        Due.due("its day", x.book(0, 0), 1);
        Due.due("its house", x.book(0, 1), 1);
        Due.due("is(2)", x.is(2), (19384 * 359 + 239) % 30431);
        Due.due("undo", x.undo(), 0);
        Due.due("is(0)", x.is(0), 0);
        Due.due("is(2)", x.is(2), 131);
        Due.due("book", x.book(-1, 0), 0);
        // 133: 1, a knock at 1. 137: 5. 135: 3, the date 15 of house 0 can't be forgotten.
        Due.due("a knock", x.years(1, 1), 0);
        Due.due("book", x.book(-1, 0), 1);
        Due.due("nothing to forget", x.years(2, 1), 0);
        Due.due("a step all the same", x.about(3), 2);
        // 165: 3, house 0, date 5.
        Due.due("forgotten", x.years(17, 1), 0);
        Due.due("dates", x.of(0, 0), 8);
        // x mod 6 is 0 or 1, 3 or 5 for the first x, which is odd: a hat comes later.
        hatOfYears();
        Due.due("years(9999, 40)", x.years(9999, 40) >= 0, true);
    }

    /** A seed whose second x is of a hat (8 mod 12), and one whose second x is 2 mod 12: nothing is done. */
    private static void hatOfYears() {
        for (int rest : new int[] {8, 2}) {
            int seed = 0;
            while (next(seed * 2 + 131) % 12 != rest) {
                seed++;
            }
            ShutDays x = new ShutDays();
            x.house(-1, -1, -1, 0, 0);
            x.years(seed, 1);
            int day = x.is(0);
            x.undo();
            Due.due("two turns", x.years(seed, 2), day);
            int drawn = next(next(seed * 2 + 131));
            Due.due("dates", x.of(0, 0), rest == 8 ? 1 << drawn % 20 : 0);
            Due.due("x", x.is(2), rest == 8 ? next(drawn) : drawn);
        }
    }

    private static int next(int x) {
        return (x * 359 + 239) % 30431;
    }

    private static void undone() {
        ShutDays x = new ShutDays();
        Due.due("none", x.undo(), -1);
        x.house(0, 1, -1, 10, 5);
        x.house(0, 4, -1, 20, 6);
        x.knock(0);
        x.day(1);
        x.hat(0);
        x.forget(1, 0);
        x.marry(0, 1);
        Due.due("marriage back", x.undo(), 4);
        Due.due("gone", x.of(0, 3), 0);
        Due.due("dates", x.of(1, 0), 17);
        Due.due("purse", x.of(1, 1), 18);
        Due.due("friends", x.of(1, 2), 6);
        Due.due("forgotten back", x.undo(), 3);
        Due.due("dates", x.of(0, 0), 3 | 1 << 11);
        Due.due("hat back", x.undo(), 2);
        Due.due("dates", x.of(0, 0), 3);
        Due.due("x", x.is(2), 131);
        Due.due("day back", x.undo(), 1);
        Due.due("day", x.is(0), 0);
        Due.due("purse", x.of(0, 1), 10);
        Due.due("knock back", x.undo(), 0);
        Due.due("friends", x.of(0, 2), 5);
        Due.due("book", x.book(-1, 0), 0);
        Due.due("none", x.undo(), -1);
        x.day(40);
        for (int i = 29; i >= 0; i--) {
            Due.due("undo", x.undo(), i);
        }
        Due.due("30 at most", x.undo(), -1);
        Due.due("day", x.is(0), 10);
        fullBookUndone();
    }

    private static void fullBookUndone() {
        ShutDays x = new ShutDays();
        x.house(0, -1, -1, 0, 0);
        for (int i = 0; i < 40; i++) {
            x.knock(0);
            x.day(1);
        }
        x.knock(0);
        Due.due("the eldest fell out", x.book(0, 0), 1);
        x.undo();
        Due.due("the eldest is back", x.book(0, 0), 0);
        Due.due("how many", x.book(-1, 0), 40);
    }

    private static void undoneHouses() {
        ShutDays x = new ShutDays();
        x.house(0, -1, -1, 10, 5);
        x.day(1);
        x.house(1, 2, -1, 20, 6);
        Due.told(x, "day 1;");
        x.by(0);
        x.seen(0, 3, true);
        x.gossip(0, 1);
        x.knock(1);
        x.hat(1);
        x.day(1);
        x.marry(0, 1);
        while (x.undo() > 0) {
            Due.due("still two", x.about(0), 2);
        }
        Due.due("as told", x.of(1, 0), 6);
        Due.due("as told", x.of(1, 1), 20);
        Due.due("as told", x.of(1, 2), 6);
        Due.due("as told", x.of(1, 3), 0);
        Due.due("day", x.is(0), 0);
        Due.due("texts stay", x.about(1), 1);
        Due.due("the text stays", x.about(2), 0);
        Due.due("seen stays", x.about(4), 1);
        Due.due("gossip stays", x.about(5), 1);
    }
}

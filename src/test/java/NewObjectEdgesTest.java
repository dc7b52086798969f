/** Edges of promises 1, 2, 16, 17, 18, 46: what a new object answers, the limits of a house, what isn't there. */
public final class NewObjectEdgesTest {
    public static void main(String[] args) {
        emptyTown();
        emptyTownsPlans();
        nothingCanBeDone();
        imageOfTheNewOne();
        twoObjects();
        eachDateOfAHouse();
        purseAndFriends();
        farOutsideForAHouse();
        sevenHouses();
        sevenWithOneGone();
        askedOfAHouse();
        askedOfOneGone();
        askedOfTheTown();
        bookEdges();
        aboutEdges();
        Due.finish();
    }

    private static void emptyTown() {
        ShutDays x = new ShutDays();
        for (int what = -1; what <= 9; what++) {
            Due.due("of(0, " + what + ")", x.of(0, what), -1);
        }
        Due.due("is(0)", x.is(0), 0);
        Due.due("is(1)", x.is(1), 0);
        Due.due("is(2)", x.is(2), 131);
        Due.due("is(3)", x.is(3), 0);
        Due.due("book(-1, 0)", x.book(-1, 0), 0);
        Due.due("book(0, 0)", x.book(0, 0), -2);
        Due.due("foretold(1, 0)", x.foretold(1, 0), -1);
        Due.due("indoors(1)", x.indoors(1), -1);
        Due.due("crowded", x.crowded(false), 0);
        Due.due("crowded", x.crowded(true), 0);
        Due.due("feast", x.feast(false), 0);
        Due.due("feast", x.feast(true), 0);
        Due.due("alone", x.alone(), 0);
        Due.due("nobodys: all twenty", x.nobodys(), 1048575);
        Due.due("poorest(60)", x.poorest(60), -1);
        Due.due("sets", x.sets(0, 1, true), -1);
        Due.due("odds", x.odds(0, 1, 0, true), -1);
        Due.due("nextKnock", x.nextKnock(0, 1), -1);
    }

    private static void emptyTownsPlans() {
        ShutDays x = new ShutDays();
        Due.due("thieves", x.thieves(19, 7, false), 0);
        Due.due("thieves", x.thieves(19, 7, true), -1);
        Due.due("night", x.night(7), 0);
        Due.due("appointments", x.appointments(0, -1), -2);
        Due.due("appointments", x.appointments(1, 0), -2);
        Due.due("rounds", x.rounds(), 0);
        Due.due("weddings", x.weddings(-1), 0);
        Due.due("weddings", x.weddings(0), -2);
        Due.due("twins", x.twins(), 0);
        Due.due("knows", x.knows(0, 0), -1);
        Due.due("never", x.never(0), -1);
        Due.due("richest", x.richest(false), 0);
        Due.due("richest", x.richest(true), 0);
        Due.due("whose", x.whose(1), -1);
        Due.told(x, "earns 1;");
        Due.due("whose: a text is there, though no house", x.whose(1), 0);
        Due.due("knocks", x.knocks(-1, false), 0);
        Due.due("knocks", x.knocks(0, false), -2);
        Due.due("offended", x.offended(), -1);
        Due.due("leap", x.leap(0, 0), -1);
    }

    private static void nothingCanBeDone() {
        ShutDays x = new ShutDays();
        Due.due("knock", x.knock(0), -1);
        Due.due("marry", x.marry(0, 1), -1);
        Due.due("hat", x.hat(0), -1);
        Due.due("forget", x.forget(0, 0), false);
        Due.due("years", x.years(0, 1), -1);
        Due.due("years drew nothing", x.is(2), 131);
        Due.due("undo", x.undo(), -1);
        Due.due("played", x.played(0), -2);
        Due.due("by(0)", x.by(0), false);
        Due.due("by(NONE)", x.by(-1), true);
        Due.due("seen", x.seen(0, 0, true), -2);
        Due.due("gossip", x.gossip(0, 1), -2);
        Due.due("fault(0)", x.fault(0), -1);
        Due.due("fault(1)", x.fault(1), -1);
        Due.due("end(0)", x.end(0), 0);
        Due.due("end(1)", x.end(1), -1);
        Due.due("no step by all this", x.about(3), 0);
        Due.due("a day passes all the same", x.day(1), 1);
        Due.due("a step", x.about(3), 1);
        Due.due("taken back", x.undo(), 0);
        Due.due("day", x.is(0), 0);
    }

    private static void imageOfTheNewOne() {
        ShutDays x = new ShutDays();
        Due.due("back at once", x.back(), 0);
        x.house(1, 2, -1, 5, 5);
        x.house(1, 3, -1, 5, 5);
        Due.told(x, "earns 7;");
        x.by(0);
        x.seen(0, 1, true);
        x.gossip(0, 1);
        x.knock(0);
        x.years(77, 9);
        x.marry(0, 1);
        Due.write(x, "loses");
        Due.due("back", x.back(), 0);
        int[] want = {0, 0, -1, 0, 0, 0, 5};
        for (int what = 0; what <= 6; what++) {
            Due.due("about(" + what + ")", x.about(what), want[what]);
        }
        Due.due("x", x.is(2), 131);
        Due.due("book", x.book(-1, 0), 0);
        Due.due("none to take back", x.undo(), -1);
        Due.due("by(0)", x.by(0), false);
        Due.due("nobody's", x.nobodys(), 1048575);
        Due.due("the first house anew", x.house(4, -1, -1, 0, 0), 0);
        Due.due("it isn't gone", x.of(0, 3), 0);
        Due.due("nothing was seen of it", x.sets(0, 1, false), 20);
        Due.due("usual law", x.of(0, 5), 1);
    }

    private static void twoObjects() {
        ShutDays x = new ShutDays();
        ShutDays y = new ShutDays();
        x.house(1, -1, -1, 5, 5);
        x.day(3);
        x.hat(0);
        x.image();
        Due.write(x, "day 1;");
        Due.due("houses of the other", y.about(0), 0);
        Due.due("day of the other", y.is(0), 0);
        Due.due("x of the other", y.is(2), 131);
        Due.due("tape of the other", y.about(6), 0);
        Due.due("image of the other", y.back(), 0);
    }

    private static void eachDateOfAHouse() {
        for (int place = 0; place < 3; place++) {
            for (int date : new int[] {-2, -1, 0, 19, 20}) {
                ShutDays x = new ShutDays();
                int[] d = {7, 8, 9};
                d[place] = date;
                boolean fine = date >= -1 && date <= 19;
                Due.due("date " + date + " at " + place, x.house(d[0], d[1], d[2], 0, 0), fine ? 0 : -1);
                Due.due("houses", x.about(0), fine ? 1 : 0);
                int bits = 0;
                for (int one : d) {
                    bits |= one >= 0 && one < 20 ? 1 << one : 0;
                }
                Due.due("its dates", x.of(0, 0), fine ? bits : -1);
            }
        }
        ShutDays x = new ShutDays();
        Due.due("none twice isn't like", x.house(-1, 5, -1, 0, 0), 0);
        Due.due("first and second", x.house(0, 0, -1, 0, 0), -1);
        Due.due("first and third", x.house(19, -1, 19, 0, 0), -1);
        Due.due("second and third", x.house(-1, 0, 0, 0, 0), -1);
        Due.due("all three", x.house(5, 5, 5, 0, 0), -1);
        Due.due("houses", x.about(0), 1);
    }

    private static void purseAndFriends() {
        ShutDays x = new ShutDays();
        Due.due("purse -1", x.house(1, -1, -1, -1, 5), -1);
        Due.due("purse 10000", x.house(1, -1, -1, 10000, 5), -1);
        Due.due("friends -1", x.house(1, -1, -1, 5, -1), -1);
        Due.due("friends 100", x.house(1, -1, -1, 5, 100), -1);
        Due.due("least", x.house(1, -1, -1, 0, 0), 0);
        Due.due("most", x.house(1, -1, -1, 9999, 99), 1);
        Due.due("purse", x.of(0, 1), 0);
        Due.due("purse", x.of(1, 1), 9999);
        Due.due("friends", x.of(0, 2), 0);
        Due.due("friends", x.of(1, 2), 99);
    }

    private static void farOutsideForAHouse() {
        ShutDays x = new ShutDays();
        for (int far : new int[] {Integer.MIN_VALUE, -33, -32, 31, 32, 33, Integer.MAX_VALUE}) {
            Due.due("first date " + far, x.house(far, -1, -1, 0, 0), -1);
            Due.due("second date " + far, x.house(-1, far, -1, 0, 0), -1);
            Due.due("third date " + far, x.house(-1, -1, far, 0, 0), -1);
        }
        for (int far : new int[] {Integer.MIN_VALUE, Integer.MAX_VALUE}) {
            Due.due("purse " + far, x.house(1, -1, -1, far, 0), -1);
            Due.due("friends " + far, x.house(1, -1, -1, 0, far), -1);
        }
        Due.due("none was told", x.about(0), 0);
    }

    private static void sevenHouses() {
        ShutDays x = new ShutDays();
        for (int i = 0; i < 7; i++) {
            Due.due("house " + i, x.house(i, -1, -1, i, i), i);
        }
        Due.due("the eighth", x.house(19, -1, -1, 9, 9), -1);
        Due.due("seven", x.about(0), 7);
        Due.due("the seventh is as it was", x.of(6, 0), 64);
        Due.due("of(7, 0)", x.of(7, 0), -1);
        Due.due("told by a script neither", Due.told(x, "house 1 purse 1 friends 1;"), 0);
        Due.due("it can't be", x.played(0), 0);
        x.back();
        Due.due("room again", x.house(3, -1, -1, 0, 0), 0);
    }

    private static void sevenWithOneGone() {
        ShutDays x = new ShutDays();
        for (int i = 0; i < 7; i++) {
            x.house(5, -1, -1, 0, 0);
        }
        x.marry(6, 0);
        Due.due("one that's gone has its number yet", x.house(1, -1, -1, 0, 0), -1);
        Due.due("houses", x.about(0), 7);
        Due.due("open", x.is(3), 6);
    }

    private static void askedOfAHouse() {
        ShutDays x = new ShutDays();
        x.house(0, 19, -1, 3, 49);
        x.house(1, -1, -1, 4, 50);
        int[] wrong = {Integer.MIN_VALUE, -2, -1, 9, 10, 32, Integer.MAX_VALUE};
        for (int what : wrong) {
            Due.due("of(1, " + what + ")", x.of(1, what), -1);
        }
        for (int house : new int[] {Integer.MIN_VALUE, -1, 2, 7, 32, Integer.MAX_VALUE}) {
            for (int what = 0; what <= 8; what++) {
                Due.due("of(" + house + ", " + what + ")", x.of(house, what), -1);
            }
        }
        Due.due("shut today", x.of(0, 4), 1);
        Due.due("open today", x.of(1, 4), 0);
        Due.due("what it would earn, though it's shut", x.of(0, 5), 2);
        Due.due("what it would lose, though it's open", x.of(1, 6), 2);
        Due.due("below 50", x.of(0, 7), 1);
        Due.due("50", x.of(1, 7), 0);
        Due.due("none on the left", x.of(0, 8), 1);
        Due.due("a shut one on the left, none on the right", x.of(1, 8), 0);
        x.day(19);
        Due.due("date 19", x.of(0, 4), 1);
        x.day(2);
        Due.due("date 1 of the next year", x.of(1, 4), 1);
    }

    private static void askedOfOneGone() {
        ShutDays x = new ShutDays();
        x.house(0, 1, -1, 30, 10);
        x.house(0, 2, -1, 40, 20);
        x.house(3, -1, -1, 50, 30);
        x.marry(0, 1);
        Due.due("its dates stay", x.of(0, 0), 3);
        Due.due("its purse stays", x.of(0, 1), 30);
        Due.due("its friends stay", x.of(0, 2), 10);
        Due.due("gone", x.of(0, 3), 1);
        Due.due("whether its date is shut", x.of(0, 4), 1);
        Due.due("beside it", x.of(0, 8), 0);
        Due.due("beside: not the one that's gone", x.of(1, 8), 1);
        x.day(20);
        Due.due("no day earns it anything", x.of(0, 1), 30);
    }

    private static void askedOfTheTown() {
        ShutDays x = new ShutDays();
        for (int what : new int[] {Integer.MIN_VALUE, -2, -1, 4, 5, Integer.MAX_VALUE}) {
            Due.due("is(" + what + ")", x.is(what), -2);
        }
        x.house(19, -1, -1, 0, 0);
        x.day(19);
        Due.due("date 19", x.is(1), 19);
        Due.due("none is open", x.is(3), 0);
        x.day(1);
        Due.due("day 20", x.is(0), 20);
        Due.due("date 0", x.is(1), 0);
        Due.due("one is open", x.is(3), 1);
    }

    private static void bookEdges() {
        ShutDays x = new ShutDays();
        x.house(0, -1, -1, 0, 0);
        for (int i = 0; i < 7; i++) {
            x.house(3, -1, -1, 0, 0);
        }
        for (int i = 0; i < 39; i++) {
            x.knock(0);
        }
        Due.due("39", x.book(-1, 0), 39);
        Due.due("the 40th isn't there", x.book(39, 0), -2);
        x.day(20);
        x.knock(6);
        Due.due("40", x.book(-1, 0), 40);
        Due.due("the latest's day", x.book(39, 0), 20);
        Due.due("the latest's house", x.book(39, 1), 6);
        Due.due("it was open", x.book(39, 2), 0);
        Due.due("the eldest's house", x.book(0, 1), 0);
        Due.due("it was shut", x.book(0, 2), 1);
        x.day(3);
        x.knock(5);
        Due.due("still 40", x.book(-1, 0), 40);
        Due.due("the latest's day", x.book(39, 0), 23);
        Due.due("the latest's house", x.book(39, 1), 5);
        Due.due("it was shut", x.book(39, 2), 1);
        Due.due("one before", x.book(38, 1), 6);
        Due.due("book(40, 1)", x.book(40, 1), -2);
        for (int what : new int[] {Integer.MIN_VALUE, -2, -1, 3, Integer.MAX_VALUE}) {
            Due.due("book(0, " + what + ")", x.book(0, what), -2);
        }
        for (int i : new int[] {Integer.MIN_VALUE, -2, 40, Integer.MAX_VALUE}) {
            Due.due("book(" + i + ", 0)", x.book(i, 0), -2);
        }
    }

    private static void aboutEdges() {
        ShutDays x = new ShutDays();
        for (int what : new int[] {Integer.MIN_VALUE, -2, -1, 7, 8, Integer.MAX_VALUE}) {
            Due.due("about(" + what + ")", x.about(what), -2);
        }
        for (int i = 0; i < 7; i++) {
            x.house(i, -1, -1, 0, 0);
        }
        for (int i = 0; i < 5; i++) {
            Due.told(x, "");
        }
        x.by(3);
        x.day(31);
        for (int i = 0; i < 9; i++) {
            x.seen(6, i, false);
            x.gossip(i % 7, (i + 1) % 7);
        }
        for (int i = 0; i < 16; i++) {
            x.feed(0, 0, 0, 0, 0);
        }
        int[] full = {7, 4, 3, 30, 8, 8, 300};
        for (int what = 0; what <= 6; what++) {
            Due.due("full: about(" + what + ")", x.about(what), full[what]);
        }
    }
}

/** Promises 32 to 40: appointments, rounds, weddings, twins, gossip, knows, never, richest, whose. */
public final class PlansTest {
    public static void main(String[] args) {
        appointments();
        lateAppointments();
        rounds();
        weddings();
        twins();
        gossip();
        richest();
        whose();
        Due.finish();
    }

    private static void appointments() {
        ShutDays x = new ShutDays();
        Due.due("without", x.appointments(1, -1), -2);
        for (int i = 0; i < 7; i++) {
            x.house(i == 0 ? 0 : 19 - i, -1, -1, 0, 0);
        }
        Due.due("no house", x.appointments(0, -1), -2);
        Due.due("six", x.appointments(63, -1), -2);
        Due.due("one that isn't there", x.appointments(129, -1), -2);
        Due.due("below 0", x.appointments(-1, -1), -2);
        Due.due("one that isn't of it", x.appointments(3, 2), -2);
        Due.due("house 7", x.appointments(3, 7), -2);
        Due.due("house -2", x.appointments(3, -2), -2);
        Due.due("house 32", x.appointments(3, 32), -2);
        Due.due("five", x.appointments(31, -1), 5);
        Due.due("0 is shut now", x.appointments(31, 1), 0);
        Due.due("then the lowest", x.appointments(31, 0), 1);
        Due.due("2", x.appointments(31, 2), 2);
        Due.due("3", x.appointments(31, 3), 3);
        Due.due("4", x.appointments(31, 4), 4);
        Due.due("one alone", x.appointments(1, -1), 2);
        Due.due("tomorrow", x.appointments(1, 0), 1);
        x.marry(6, 5);
        Due.due("one that's gone", x.appointments(64, -1), -2);
        Due.due("the other one", x.appointments(32, 5), 0);
        Due.due("no step", x.about(3), 1);
    }

    private static void lateAppointments() {
        ShutDays x = new ShutDays();
        x.house(2, 1, 0, 0, 0);
        x.house(0, 1, 2, 0, 0);
        x.house(1, 2, -1, 0, 0);
        x.house(1, 2, 3, 0, 0);
        x.house(4, 5, 6, 0, 0);
        // Day 0: 2, 3 or 4; days 1, 2: 4 alone. 4 waits on none of its dates.
        Due.due("in how many", x.appointments(31, -1), 6);
        Due.due("2", x.appointments(31, 2), 0);
        Due.due("4", x.appointments(31, 4), 1);
        Due.due("0", x.appointments(31, 0), 3);
        Due.due("1", x.appointments(31, 1), 4);
        Due.due("3", x.appointments(31, 3), 5);
        Due.due("nobody is in", x.appointments(3, -1), 5);
        Due.due("0", x.appointments(3, 0), 3);
        Due.due("1", x.appointments(3, 1), 4);
        x.day(18);
        Due.due("the year's end", x.appointments(7, -1), 3);
        Due.due("0", x.appointments(7, 0), 0);
        Due.due("1", x.appointments(7, 1), 1);
        Due.due("2", x.appointments(7, 2), 2);
        ShutDays y = new ShutDays();
        y.house(1, 2, -1, 0, 0);
        y.house(0, 3, -1, 0, 0);
        y.house(0, 2, -1, 0, 0);
        // The lowest of the first day is 0; then 1, as the lower of the two; the day 2 has none.
        Due.due("in how many", y.appointments(7, -1), 3);
        Due.due("0", y.appointments(7, 0), 0);
        Due.due("1", y.appointments(7, 1), 2);
        Due.due("2", y.appointments(7, 2), 1);
    }

    private static void rounds() {
        ShutDays x = new ShutDays();
        Due.due("without", x.rounds(), 0);
        x.house(0, 1, 2, 0, 0);
        Due.due("one date", x.rounds(), 8);
        x.house(3, -1, -1, 0, 0);
        Due.due("one date", x.rounds(), 16);
        x.forget(1, 0);
        Due.due("the lowest", x.rounds(), 2);
        ShutDays y = new ShutDays();
        for (int i = 0; i < 6; i++) {
            y.house(3 * i, 3 * i + 1, 3 * i + 2, 0, 0);
        }
        Due.due("18 is left", y.rounds(), 1 << 18);
        y.house(18, 19, -1, 0, 0);
        Due.due("two dates, 0 and 3", y.rounds(), 9);
        y.hat(6);
        Due.due("11 as well", y.rounds(), 9);
        y.forget(0, 0);
        Due.due("0 is free", y.rounds(), 1);
        ShutDays z = new ShutDays();
        z.house(0, -1, -1, 0, 0);
        z.house(0, -1, -1, 0, 0);
        z.marry(0, 1);
        Due.due("one that's gone isn't asked", z.rounds(), 2);
        z.forget(0, 1);
        Due.due("0 is free", z.rounds(), 1);
    }

    private static void weddings() {
        ShutDays x = new ShutDays();
        Due.due("without", x.weddings(-1), 0);
        Due.due("without", x.weddings(0), -2);
        x.house(1, 2, 3, 0, 0);
        x.house(1, 2, 9, 0, 0);
        x.house(2, 3, 1, 0, 0);
        x.house(9, 1, 2, 0, 0);
        x.house(15, -1, -1, 0, 0);
        Due.due("3 and 3", x.weddings(-1), 6);
        int[] want = {2, 3, 0, 1, -1};
        for (int h = 0; h < 5; h++) {
            Due.due("weddings(" + h + ")", x.weddings(h), want[h]);
        }
        Due.due("weddings(5)", x.weddings(5), -2);
        Due.due("weddings(-2)", x.weddings(-2), -2);
        x.marry(2, 0);
        Due.due("one that's gone", x.weddings(2), -1);
        Due.due("3 alone", x.weddings(-1), 3);
        Due.due("0 alone", x.weddings(0), -1);
        ShutDays y = new ShutDays();
        for (int i = 0; i < 4; i++) {
            y.house(6, -1, -1, 0, 0);
        }
        Due.due("a date of two twos counts twice", y.weddings(-1), 2);
        Due.due("with the lowest", y.weddings(0), 1);
        Due.due("with the lowest", y.weddings(2), 3);
        y.house(6, -1, -1, 0, 0);
        Due.due("five", y.weddings(-1), 2);
        Due.due("the lowest alone", y.weddings(0), -1);
        Due.due("then the next", y.weddings(1), 2);
        Due.due("then the next", y.weddings(3), 4);
    }

    private static void twins() {
        ShutDays x = new ShutDays();
        Due.due("without", x.twins(), 0);
        x.house(1, 2, -1, 0, 0);
        x.house(2, 1, -1, 9, 9);
        Due.due("one two", x.twins(), 1);
        x.house(-1, 1, 2, 0, 0);
        Due.due("three twos", x.twins(), 3);
        x.house(-1, -1, -1, 0, 0);
        x.house(-1, -1, -1, 0, 0);
        Due.due("none is like none", x.twins(), 4);
        x.marry(0, 1);
        Due.due("without the one that's gone", x.twins(), 2);
    }

    private static void gossip() {
        ShutDays x = new ShutDays();
        Due.due("without", x.gossip(0, 1), -2);
        Due.due("none any more", x.gossip(-1, 5), 0);
        Due.due("knows without", x.knows(0, 0), -1);
        Due.due("never without", x.never(0), -1);
        for (int i = 0; i < 7; i++) {
            x.house(i, -1, -1, 0, 0);
        }
        Due.due("never, all but itself", x.never(3), 127 - 8);
        Due.due("like ones", x.gossip(2, 2), -2);
        Due.due("no house", x.gossip(2, 7), -2);
        Due.due("no house", x.gossip(7, 2), -2);
        Due.due("no house", x.gossip(2, -1), -2);
        Due.due("no house", x.gossip(-2, 2), -2);
        // The last ones told first, so that nothing runs ahead within a day.
        for (int i = 5; i >= 0; i--) {
            Due.due("gossip", x.gossip(i, i + 1), 6 - i);
        }
        Due.due("twice", x.gossip(0, 1), 7);
        Due.due("a short way", x.gossip(0, 3), 8);
        Due.due("the ninth", x.gossip(1, 0), -2);
        Due.due("about(5)", x.about(5), 8);
        int[] want = {0, 1, 2, 1, 2, 3, 4};
        for (int i = 0; i < 7; i++) {
            Due.due("knows(" + i + ", 0)", x.knows(i, 0), want[i]);
        }
        Due.due("knows(0, 6)", x.knows(0, 6), -1);
        Due.due("knows(7, 0)", x.knows(7, 0), -1);
        Due.due("knows(0, -1)", x.knows(0, -1), -1);
        Due.due("never(0)", x.never(0), 0);
        Due.due("never(4)", x.never(4), 15);
        Due.due("never(7)", x.never(7), -1);
        Due.due("never(-1)", x.never(-1), -1);
        x.marry(3, 2);
        Due.due("gone or not", x.knows(3, 0), 1);
        Due.due("gone or not", x.never(4), 15);
        Due.due("none any more", x.gossip(-1, 0), 0);
        Due.due("about(5)", x.about(5), 0);
        Due.due("never", x.never(0), 126);
        for (int i = 0; i < 6; i++) {
            x.gossip(i, i + 1);
        }
        Due.due("not within a day", x.knows(6, 0), 6);
    }

    private static void richest() {
        ShutDays x = new ShutDays();
        Due.due("without", x.richest(false), 0);
        Due.due("without", x.richest(true), 0);
        x.house(0, 1, -1, 10, 0);
        x.house(2, -1, -1, 20, 0);
        x.house(3, -1, -1, 30, 0);
        Due.due("the lowest on which all are open", x.richest(false), 4);
        Due.due("2 + 3 + 2", x.richest(true), 7);
        Due.told(x, "earns day;");
        x.by(0);
        Due.due("3 * 19", x.richest(true), 57);
        Due.due("date 19", x.richest(false), 19);
        x.day(5);
        Due.due("the next day 24 is of date 4", x.richest(false), 4);
        Due.due("3 * 24", x.richest(true), 72);
        x.day(45);
        Due.due("99 at most, but for day 60 .. 69", x.richest(true), 207);
        Due.due("day 69", x.richest(false), 9);
        Due.told(x, "earns house * 10 + open - beside;");
        x.by(1);
        // All are open: 2, 11, 22; without 0: 11 + 2 - 1, 20 + 2 - 1.
        Due.due("together", x.richest(true), 2 + 11 + 22);
        Due.due("4", x.richest(false), 4);
        x.marry(2, 1);
        Due.due("without the one that's gone", x.richest(true), 1 + 11);
        Due.due("4", x.richest(false), 4);
        Due.due("nothing changed", x.is(0), 50);
    }

    private static void whose() {
        ShutDays x = new ShutDays();
        Due.due("without houses", x.whose(1), -1);
        x.house(1, -1, -1, 10, 0);
        Due.due("without texts", x.whose(1), -1);
        Due.told(x, "earns 1; loses 50;");
        Due.told(x, "earns 1; loses 3;");
        Due.told(x, "earns 1; loses 3;");
        Due.told(x, "earns day * 10; loses 99;");
        Due.due("of like ones the lowest", x.whose(1), 0);
        Due.due("the second loses less", x.whose(2), 1);
        Due.due("the fourth earns more later", x.whose(3), 3);
        Due.due("whose(0)", x.whose(0), -1);
        Due.due("whose(61)", x.whose(61), -1);
        Due.due("none rules", x.about(2), -1);
        Due.due("nothing changed", x.of(0, 1), 10);
    }
}

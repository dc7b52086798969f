/** Edges of promises 32 to 40: sets of one and five, days without an appointment, like ones, gone ones, full rows. */
public final class PlanEdgesTest {
    public static void main(String[] args) {
        appointmentsRefused();
        appointmentsOfOne();
        appointmentsByDays();
        appointmentsLate();
        appointmentsOnTheLastDay();
        appointmentsOfTheLastHouse();
        appointmentsOverTheYearsEnd();
        roundsOfOneDate();
        roundsOfTwoDates();
        roundsInOrder();
        roundsWithGoneOnes();
        weddingsRefused();
        weddingsOfLikeOnes();
        weddingsMostTogether();
        weddingsWithGoneOnes();
        twinsEdges();
        gossipRefused();
        gossipTillEight();
        knowsEdges();
        neverEdges();
        richestOfLikeOnes();
        richestAsIfThen();
        richestBeyondTheLastDay();
        richestOfShutAndGone();
        whoseRefused();
        whoseOfLikeOnes();
        whoseToTheLastDay();
        whoseOfTheLastHouse();
        Due.finish();
    }

    private static void toTheLastDay(ShutDays x) {
        for (int i = 0; i < 166; i++) {
            x.day(60);
        }
        Due.due("the last day", x.day(39), 19);
    }

    private static void plan(ShutDays x, int set, int in, int... days) {
        Due.due("appointments(" + set + ", NONE)", x.appointments(set, -1), in);
        int at = 0;
        for (int h = 0; h < 7; h++) {
            boolean met = (set >> h & 1) == 1;
            Due.due("appointments(" + set + ", " + h + ")", x.appointments(set, h), met ? days[at] : -2);
            at += met ? 1 : 0;
        }
    }

    private static void appointmentsRefused() {
        ShutDays x = new ShutDays();
        for (int i = 0; i < 6; i++) {
            x.house(i + 7, -1, -1, 0, 0);
        }
        int[] wrong = {0, 63, 64, 65, 127, 128, 256, 1 << 30, -1, -2, Integer.MIN_VALUE, Integer.MAX_VALUE,
            Integer.MIN_VALUE + 1};
        for (int set : wrong) {
            Due.due("appointments(" + set + ", NONE)", x.appointments(set, -1), -2);
            Due.due("appointments(" + set + ", 0)", x.appointments(set, 0), -2);
        }
        for (int house : new int[] {Integer.MIN_VALUE, -2, 1, 5, 6, 7, 32, 33, Integer.MAX_VALUE}) {
            Due.due("appointments(1, " + house + ")", x.appointments(1, house), -2);
        }
        plan(x, 62, 5, 0, 1, 2, 3, 4);
        plan(x, 31, 5, 0, 1, 2, 3, 4);
        x.marry(5, 4);
        Due.due("one that's gone", x.appointments(32, -1), -2);
        Due.due("one that's gone among them", x.appointments(33, 0), -2);
        plan(x, 17, 2, 0, 1);
    }

    private static void appointmentsOfOne() {
        ShutDays x = new ShutDays();
        x.house(0, 1, 2, 0, 0);
        x.house(-1, -1, -1, 0, 0);
        plan(x, 2, 1, 0);
        plan(x, 1, 4, 3);
        x.day(3);
        plan(x, 1, 1, 0);
        x.day(17);
        plan(x, 1, 4, 3);
        x.day(19);
        plan(x, 1, 1, 0);
        plan(x, 3, 2, 0, 1);
    }

    /** As soon as can be comes first; then, day by day, the lowest house; a day without one behind all. */
    private static void appointmentsByDays() {
        ShutDays x = new ShutDays();
        x.house(1, 2, 3, 0, 0);
        x.house(0, 2, 3, 0, 0);
        x.house(0, 1, 3, 0, 0);
        plan(x, 7, 3, 0, 1, 2);
        ShutDays y = new ShutDays();
        y.house(-1, -1, -1, 0, 0);
        y.house(1, 2, 3, 0, 0);
        plan(y, 3, 2, 1, 0);
        ShutDays z = new ShutDays();
        z.house(0, 1, 2, 0, 0);
        z.house(-1, -1, -1, 0, 0);
        z.house(-1, -1, -1, 0, 0);
        plan(z, 7, 4, 3, 0, 1);
        plan(z, 3, 4, 3, 0);
        ShutDays v = new ShutDays();
        v.house(-1, -1, -1, 0, 0);
        v.house(0, 1, 3, 0, 0);
        v.house(0, 2, 3, 0, 0);
        plan(v, 7, 3, 0, 2, 1);
        plan(v, 6, 3, 2, 1);
    }

    private static void appointmentsLate() {
        ShutDays x = new ShutDays();
        for (int i = 0; i < 5; i++) {
            x.house(0, 1, 2, 0, 0);
        }
        plan(x, 31, 8, 3, 4, 5, 6, 7);
        x.day(18);
        plan(x, 31, 8, 0, 1, 5, 6, 7);
        ShutDays y = new ShutDays();
        y.house(2, 3, 4, 0, 0);
        y.house(2, 3, 4, 0, 0);
        y.house(2, 3, 4, 0, 0);
        y.house(0, 1, 5, 0, 0);
        y.house(0, 1, 5, 0, 0);
        // 0, 1 on days 0, 1; 3, 4 on days 2, 3; then 2 on day 5, when 3 and 4 are shut.
        plan(y, 31, 6, 0, 1, 5, 2, 3);
    }

    /** The dates go on, though no day can pass any more. */
    private static void appointmentsOnTheLastDay() {
        ShutDays x = new ShutDays();
        x.house(19, -1, -1, 0, 0);
        x.house(0, -1, -1, 0, 0);
        toTheLastDay(x);
        plan(x, 3, 2, 1, 0);
        plan(x, 1, 2, 1);
    }

    private static void appointmentsOfTheLastHouse() {
        ShutDays x = new ShutDays();
        for (int i = 0; i < 7; i++) {
            x.house(i == 6 ? 2 : 0, i == 6 ? -1 : 1, -1, 0, 0);
        }
        plan(x, 64, 1, 0);
        // 6 alone can be met on the first two days; it isn't open on the third.
        plan(x, 65, 3, 2, 0);
        plan(x, 64 | 32 | 16 | 8 | 4, 6, 2, 3, 4, 5, 0);
    }

    /** Dates 18, 19, 0 come one behind the other. */
    private static void appointmentsOverTheYearsEnd() {
        ShutDays x = new ShutDays();
        x.house(18, 19, -1, 0, 0);
        x.house(0, 18, -1, 0, 0);
        x.house(0, 19, -1, 0, 0);
        x.day(18);
        plan(x, 7, 3, 2, 1, 0);
        plan(x, 1, 3, 2);
        x.day(1);
        plan(x, 7, 3, 1, 0, 2);
    }

    private static void roundsOfOneDate() {
        ShutDays x = new ShutDays();
        x.house(-1, -1, -1, 0, 0);
        Due.due("the lowest", x.rounds(), 1);
        x.house(0, 1, 2, 0, 0);
        x.house(3, 4, 5, 0, 0);
        Due.due("6", x.rounds(), 64);
        for (int i = 2; i < 6; i++) {
            x.house(3 * i, 3 * i + 1, 3 * i + 2, 0, 0);
        }
        Due.due("the last but one", x.rounds(), 1 << 18);
        Due.due("no more room", x.house(18, -1, -1, 0, 0), -1);
        Due.due("11 out of the hat", x.hat(0), 11);
        Due.due("18 yet", x.rounds(), 1 << 18);
        x.day(7);
        Due.due("whatever day it is", x.rounds(), 1 << 18);
    }

    private static void roundsOfTwoDates() {
        ShutDays x = new ShutDays();
        int[] dates = {0, 1, 2, 0, 3, 4, 1, 3, 5, 6, 7, 8, 9, 10, 11, 12, 13, 14};
        for (int i = 0; i < 6; i++) {
            x.house(dates[3 * i], dates[3 * i + 1], dates[3 * i + 2], 0, 0);
        }
        Due.due("15 is free", x.rounds(), 1 << 15);
        ShutDays y = new ShutDays();
        for (int i = 0; i < 6; i++) {
            y.house(3 * i, 3 * i + 1, 3 * i + 2, 0, 0);
        }
        y.house(18, 19, 0, 0, 0);
        Due.due("0 and 3: 1, 2 are of 0's house", y.rounds(), 1 | 8);
        y.forget(0, 6);
        Due.due("0 and 3 yet", y.rounds(), 1 | 8);
        y.forget(19, 6);
        Due.due("19 alone", y.rounds(), 1 << 19);
    }

    /** All dates are had by somebody: of two dates the lowest set by its bits, 0 and 1, 0 and 2, 1 and 2. */
    private static void roundsInOrder() {
        int[][] firsts = {{0, 2, 3, 1, 4, 5}, {0, 1, 3, 2, 4, 5}, {0, 1, 3, 0, 2, 4}};
        int[] want = {3, 5, 6};
        for (int i = 0; i < 3; i++) {
            ShutDays x = new ShutDays();
            int[] f = firsts[i];
            x.house(f[0], f[1], f[2], 0, 0);
            x.house(f[3], f[4], f[5], 0, 0);
            for (int date = 5; date < 20; date += 3) {
                x.house(date, date + 1, date + 2, 0, 0);
            }
            Due.due("every date is had", x.nobodys(), 0);
            Due.due("rounds", x.rounds(), want[i]);
        }
    }

    private static void roundsWithGoneOnes() {
        ShutDays x = new ShutDays();
        x.house(0, 1, -1, 0, 0);
        x.house(0, 2, -1, 0, 0);
        Due.due("3", x.rounds(), 8);
        x.marry(0, 1);
        Due.due("0 is the other's yet", x.rounds(), 2);
        x.forget(0, 1);
        Due.due("the one that's gone isn't asked", x.rounds(), 1);
    }

    private static void pairs(ShutDays x, int dates, int... with) {
        Due.due("weddings(NONE)", x.weddings(-1), dates);
        for (int h = 0; h < with.length; h++) {
            Due.due("weddings(" + h + ")", x.weddings(h), with[h]);
        }
    }

    private static void weddingsRefused() {
        ShutDays x = new ShutDays();
        x.house(1, -1, -1, 0, 0);
        for (int house : new int[] {Integer.MIN_VALUE, -2, 1, 7, 32, Integer.MAX_VALUE}) {
            Due.due("weddings(" + house + ")", x.weddings(house), -2);
        }
        pairs(x, 0, -1);
        x.house(2, -1, -1, 0, 0);
        pairs(x, 0, -1, -1);
        Due.due("nobody is married by it", x.about(3), 0);
    }

    /** Of like ones the lowest is alone, else with the lowest. */
    private static void weddingsOfLikeOnes() {
        ShutDays x = new ShutDays();
        x.house(1, -1, -1, 0, 0);
        x.house(1, -1, -1, 0, 0);
        pairs(x, 1, 1, 0);
        x.house(1, -1, -1, 0, 0);
        pairs(x, 1, -1, 2, 1);
        x.house(1, -1, -1, 0, 0);
        pairs(x, 2, 1, 0, 3, 2);
        x.house(-1, -1, -1, 0, 0);
        pairs(x, 2, 1, 0, 3, 2, -1);
        x.house(1, -1, -1, 0, 0);
        pairs(x, 2, -1, 2, 1, 5, -1, 3);
        x.house(1, -1, -1, 0, 0);
        pairs(x, 3, 1, 0, 3, 2, -1, 6, 5);
        ShutDays y = new ShutDays();
        for (int i = 0; i < 7; i++) {
            y.house(4, 5, 6, 0, 0);
        }
        pairs(y, 9, -1, 2, 1, 4, 3, 6, 5);
    }

    private static void weddingsMostTogether() {
        ShutDays x = new ShutDays();
        x.house(0, 1, -1, 0, 0);
        x.house(0, 1, 2, 0, 0);
        x.house(2, 3, -1, 0, 0);
        // 0 with 1 has two dates; 1 with 2 but one.
        pairs(x, 2, 1, 0, -1);
        x.house(3, 2, -1, 0, 0);
        pairs(x, 4, 1, 0, 3, 2);
        ShutDays y = new ShutDays();
        y.house(0, -1, -1, 0, 0);
        y.house(0, 1, 2, 0, 0);
        y.house(1, 2, -1, 0, 0);
        y.house(0, 9, -1, 0, 0);
        // 1 with 2 has two, 0 with 3 one: better than 0 with 1.
        pairs(y, 3, 3, 2, 1, 0);
        ShutDays z = new ShutDays();
        z.house(0, -1, -1, 0, 0);
        z.house(1, -1, -1, 0, 0);
        z.house(0, 1, -1, 0, 0);
        // 0 with 2 or 1 with 2: 0 is alone rather.
        pairs(z, 1, -1, 2, 1);
    }

    private static void weddingsWithGoneOnes() {
        ShutDays x = new ShutDays();
        for (int i = 0; i < 5; i++) {
            x.house(1, 2, -1, 0, 0);
        }
        pairs(x, 4, -1, 2, 1, 4, 3);
        x.marry(1, 0);
        pairs(x, 4, 2, -1, 0, 4, 3);
        x.marry(0, 4);
        pairs(x, 2, -1, -1, -1, 4, 3);
        x.marry(3, 4);
        pairs(x, 2, -1, -1, 4, -1, 2);
        x.marry(2, 4);
        pairs(x, 0, -1, -1, -1, -1, -1);
    }

    private static void twinsEdges() {
        ShutDays x = new ShutDays();
        x.house(0, 19, -1, 0, 0);
        Due.due("one", x.twins(), 0);
        x.house(0, -1, -1, 0, 0);
        Due.due("some of them isn't the same", x.twins(), 0);
        x.house(19, -1, 0, 5, 5);
        Due.due("the order doesn't matter", x.twins(), 1);
        ShutDays y = new ShutDays();
        for (int i = 0; i < 7; i++) {
            y.house(-1, -1, -1, 0, 0);
        }
        Due.due("seven alike, without any", y.twins(), 21);
        y.marry(0, 6);
        Due.due("six", y.twins(), 15);
        y.hat(6);
        Due.due("five", y.twins(), 10);
        y.marry(5, 1);
        Due.due("four", y.twins(), 6);
    }

    private static void gossipRefused() {
        ShutDays x = new ShutDays();
        x.house(0, -1, -1, 0, 0);
        x.house(1, -1, -1, 0, 0);
        int[][] wrong = {{0, 0}, {1, 1}, {0, 2}, {2, 0}, {0, -1}, {-2, 0}, {0, 7}, {7, 0}, {0, 32}, {33, 0},
            {Integer.MIN_VALUE, 0}, {0, Integer.MIN_VALUE}, {Integer.MAX_VALUE, 0}, {0, Integer.MAX_VALUE}};
        for (int[] w : wrong) {
            Due.due("gossip(" + w[0] + ", " + w[1] + ")", x.gossip(w[0], w[1]), -2);
        }
        Due.due("none", x.about(5), 0);
        Due.due("none any more", x.gossip(-1, -1), 0);
        Due.due("none any more, whatever the other", x.gossip(-1, 99), 0);
        Due.due("one", x.gossip(0, 1), 1);
        Due.due("no step", x.about(3), 0);
    }

    private static void gossipTillEight() {
        ShutDays x = new ShutDays();
        for (int i = 0; i < 3; i++) {
            x.house(i, -1, -1, 0, 0);
        }
        for (int i = 1; i <= 7; i++) {
            Due.due("the same again", x.gossip(0, 1), i);
        }
        Due.due("the eighth", x.gossip(1, 0), 8);
        Due.due("the ninth", x.gossip(1, 2), -2);
        Due.due("it wasn't told", x.knows(2, 0), -1);
        Due.due("the eighth was", x.knows(0, 1), 1);
        x.gossip(-1, 0);
        Due.due("nobody tells", x.knows(0, 1), -1);
        Due.due("from the first on", x.gossip(1, 2), 1);
        Due.due("this one tells", x.knows(2, 1), 1);
    }

    private static void knowsEdges() {
        ShutDays x = new ShutDays();
        for (int i = 0; i < 7; i++) {
            x.house(4, -1, -1, 0, 0);
        }
        int[][] wrong = {{-1, 0}, {0, -1}, {7, 0}, {0, 7}, {Integer.MIN_VALUE, 0}, {0, Integer.MAX_VALUE}, {32, 0}, {0, 32}};
        for (int[] w : wrong) {
            Due.due("knows(" + w[0] + ", " + w[1] + ")", x.knows(w[0], w[1]), -1);
        }
        for (int i = 0; i < 7; i++) {
            Due.due("itself", x.knows(i, i), 0);
            Due.due("nobody tells", x.knows(i, (i + 1) % 7), -1);
        }
        for (int i = 0; i < 7; i++) {
            x.gossip(i, (i + 1) % 7);
        }
        for (int i = 0; i < 7; i++) {
            for (int k = 0; k < 7; k++) {
                Due.due("round the street", x.knows((i + k) % 7, i), k);
            }
            Due.due("all come to know", x.never(i), 0);
        }
        Due.due("a short way", x.gossip(0, 6), 8);
        Due.due("the shorter", x.knows(6, 0), 1);
        Due.due("as before", x.knows(5, 0), 5);
        x.marry(3, 4);
        Due.due("gone or not", x.knows(5, 0), 5);
        x.undo();
        x.day(20);
        Due.due("whatever day it is", x.knows(5, 0), 5);
    }

    private static void neverEdges() {
        ShutDays x = new ShutDays();
        for (int house : new int[] {Integer.MIN_VALUE, -1, 0, 1, 7, Integer.MAX_VALUE}) {
            Due.due("never(" + house + ")", x.never(house), -1);
        }
        x.house(4, -1, -1, 0, 0);
        Due.due("it knows it", x.never(0), 0);
        Due.due("never(1)", x.never(1), -1);
        for (int i = 1; i < 7; i++) {
            x.house(4, -1, -1, 0, 0);
        }
        Due.due("all others", x.never(0), 126);
        Due.due("all others", x.never(6), 63);
        for (int i = 0; i < 6; i++) {
            x.gossip(i, i + 1);
        }
        Due.due("the far end knows in six days", x.never(0), 0);
        Due.due("those before it", x.never(6), 63);
        Due.due("those before it", x.never(1), 1);
        x.marry(1, 0);
        Due.due("gone ones as well", x.never(6), 63);
    }

    private static void richestOfLikeOnes() {
        ShutDays x = new ShutDays();
        x.house(-1, -1, -1, 0, 0);
        Due.due("all alike: the lowest", x.richest(false), 0);
        Due.due("1", x.richest(true), 1);
        x.day(7);
        Due.due("the lowest date, not the next", x.richest(false), 0);
        Due.told(x, "earns 0;");
        x.by(0);
        Due.due("nothing on any: the lowest", x.richest(false), 0);
        Due.due("0", x.richest(true), 0);
        Due.told(x, "earns -day;");
        x.by(1);
        Due.due("below 0 is 0", x.richest(true), 0);
    }

    /** The day is the next with that date, today's own being today. */
    private static void richestAsIfThen() {
        ShutDays x = new ShutDays();
        x.house(-1, -1, -1, 0, 0);
        x.day(7);
        Due.told(x, "earns 99 - day;");
        Due.told(x, "earns day;");
        Due.told(x, "earns date;");
        x.by(0);
        Due.due("today", x.richest(false), 7);
        Due.due("99 less 7", x.richest(true), 92);
        x.by(1);
        Due.due("day 26 is of date 6", x.richest(false), 6);
        Due.due("26", x.richest(true), 26);
        x.by(2);
        Due.due("19", x.richest(false), 19);
        Due.due("19", x.richest(true), 19);
        Due.due("no day has passed", x.is(0), 7);
    }

    /** On day 9999 (date 19) the next with date 18 would be day 10018, though it can't come. */
    private static void richestBeyondTheLastDay() {
        ShutDays x = new ShutDays();
        x.house(-1, -1, -1, 0, 0);
        Due.told(x, "earns 0;");
        Due.told(x, "earns day - 9999 + 5;");
        Due.told(x, "earns 9999 + 5 - day;");
        x.by(0);
        toTheLastDay(x);
        x.by(1);
        Due.due("date 18", x.richest(false), 18);
        Due.due("19 days on", x.richest(true), 24);
        x.by(2);
        Due.due("today", x.richest(false), 19);
        Due.due("5", x.richest(true), 5);
    }

    private static void richestOfShutAndGone() {
        ShutDays x = new ShutDays();
        x.house(0, -1, -1, 40, 0);
        x.house(1, -1, -1, 9999, 0);
        x.house(1, -1, -1, 9, 0);
        Due.told(x, "earns purse; loses 99;");
        x.by(0);
        Due.due("all three from 2 on", x.richest(false), 2);
        Due.due("40, 99, 9", x.richest(true), 148);
        x.marry(2, 1);
        Due.due("two", x.richest(true), 139);
        x.forget(0, 0);
        Due.due("0 is free now", x.richest(false), 0);
        ShutDays y = new ShutDays();
        for (int i = 0; i < 7; i++) {
            y.house(3 * i % 20, (3 * i + 1) % 20, (3 * i + 2) % 20, 5, 0);
        }
        Due.told(y, "earns 10 - open; loses 99;");
        y.by(0);
        // Date 0 is shut for two (0 and the seventh's 20 mod 20): five open earn 5 each; else six earn 4 each.
        Due.due("date 0", y.richest(false), 0);
        Due.due("5 times 5, nothing lost", y.richest(true), 25);
    }

    private static void whoseRefused() {
        ShutDays x = new ShutDays();
        x.house(-1, -1, -1, 5, 5);
        Due.due("no text", x.whose(1), -1);
        Due.told(x, "");
        for (int n : new int[] {Integer.MIN_VALUE, -1, 0, 61, Integer.MAX_VALUE}) {
            Due.due("whose(" + n + ")", x.whose(n), -1);
        }
        Due.due("the least", x.whose(1), 0);
        Due.due("the most", x.whose(60), 0);
    }

    private static void whoseOfLikeOnes() {
        ShutDays x = new ShutDays();
        x.house(-1, -1, -1, 9990, 0);
        x.house(-1, -1, -1, 0, 0);
        Due.told(x, "earns 1;");
        Due.told(x, "earns 3 - house * 2;");
        Due.told(x, "earns 1;");
        Due.told(x, "earns house * 2;");
        Due.due("4 in two: the second", x.whose(1), 1);
        // By the second the first is full on day 3 (9 more), by the fourth house 1 has 2 a day: 60 to 9 + 30.
        Due.due("9999 at most for each", x.whose(30), 3);
        x.by(1);
        Due.due("whichever rules", x.whose(30), 3);
        Due.due("it rules yet", x.about(2), 1);
        ShutDays y = new ShutDays();
        y.house(-1, -1, -1, 0, 0);
        Due.told(y, "earns 0;");
        Due.told(y, "earns 0;");
        Due.due("of like ones the lowest", y.whose(60), 0);
        Due.told(y, "");
        Due.due("the usual law of a text without", y.whose(1), 2);
    }

    private static void whoseToTheLastDay() {
        ShutDays x = new ShutDays();
        x.house(-1, -1, -1, 0, 0);
        Due.told(x, "earns 0;");
        Due.told(x, "earns 5;");
        Due.told(x, "earns (day / 9998) * 9;");
        x.by(0);
        toTheLastDay(x);
        Due.due("none can pass: all alike", x.whose(60), 0);
        x.undo();
        Due.due("one can: by the third", x.whose(60), 2);
        x.undo();
        Due.due("two can: 10 to 9", x.whose(60), 1);
    }

    /** Each text gives to one house alone: all seven purses count. */
    private static void whoseOfTheLastHouse() {
        for (int favoured = 0; favoured < 7; favoured++) {
            ShutDays x = new ShutDays();
            for (int i = 0; i < 7; i++) {
                x.house(-1, -1, -1, 5, 0);
            }
            Due.told(x, "earns 0;");
            Due.told(x, "earns 7 * (1 - (house - " + favoured + ") * (house - " + favoured + "));");
            Due.due("by the second, for " + favoured, x.whose(1), 1);
            x.by(1);
            Due.due("its purse", x.foretold(1, favoured), 12);
            Due.due("another's", x.foretold(1, (favoured + 1) % 7), 5);
            Due.due("what all earn", x.richest(true), 7);
        }
    }
}

/** Edges of promises 41 to 45: knocks in a full book, like ones, leaps round the year, an image of all. */
public final class BookEdgesTest {
    public static void main(String[] args) {
        knocksRefused();
        knocksInAFullBook();
        offendedEdges();
        leapRefused();
        leapRoundTheYear();
        leapOfNone();
        leapOfMany();
        imageAndBack();
        imageKeepsSteps();
        imageOfAFullObject();
        imageIsntTheTape();
        imageTakenAnew();
        Due.finish();
    }

    private static void knocksRefused() {
        ShutDays x = new ShutDays();
        Due.due("at all", x.knocks(-1, true), 0);
        x.house(0, -1, -1, 0, 0);
        for (int house : new int[] {Integer.MIN_VALUE, -2, 1, 7, 32, Integer.MAX_VALUE}) {
            Due.due("knocks(" + house + ")", x.knocks(house, true), -2);
            Due.due("knocks(" + house + ")", x.knocks(house, false), -2);
        }
        Due.due("none yet", x.knocks(0, true), 0);
        Due.due("none yet", x.knocks(0, false), 0);
    }

    private static void knocksInAFullBook() {
        ShutDays x = new ShutDays();
        x.house(0, -1, -1, 0, 0);
        x.house(1, -1, -1, 0, 0);
        x.knock(0);
        for (int i = 0; i < 39; i++) {
            x.knock(1);
        }
        Due.due("shut", x.knocks(0, true), 1);
        Due.due("shut at all", x.knocks(-1, true), 1);
        Due.due("open at all", x.knocks(-1, false), 39);
        Due.due("offended", x.offended(), 0);
        x.knock(1);
        Due.due("the eldest fell out", x.knocks(0, true), 0);
        Due.due("none shut", x.knocks(-1, true), 0);
        Due.due("open at all", x.knocks(-1, false), 40);
        Due.due("nobody is offended", x.offended(), -1);
        x.undo();
        Due.due("it is back", x.offended(), 0);
        x.day(1);
        x.knock(1);
        Due.due("shut once, now 1", x.offended(), 1);
        Due.due("shut", x.knocks(1, true), 1);
        Due.due("open", x.knocks(1, false), 39);
    }

    private static void offendedEdges() {
        ShutDays x = new ShutDays();
        for (int i = 0; i < 7; i++) {
            x.house(i == 3 ? 1 : 0, -1, -1, 0, 0);
        }
        x.knock(3);
        x.knock(3);
        Due.due("open knocks offend nobody", x.offended(), -1);
        x.knock(6);
        Due.due("the last", x.offended(), 6);
        x.knock(5);
        Due.due("of like ones the lowest", x.offended(), 5);
        x.knock(6);
        Due.due("the most", x.offended(), 6);
        x.marry(6, 5);
        Due.due("gone, in the book all the same", x.offended(), 6);
        x.knock(5);
        Due.due("of like ones the lowest", x.offended(), 5);
    }

    private static void leapRefused() {
        ShutDays x = new ShutDays();
        x.house(0, -1, -1, 0, 0);
        x.house(1, -1, -1, 0, 0);
        int[][] wrong = {{-1, 0}, {0, -1}, {2, 0}, {0, 2}, {7, 7}, {-1, -1}, {Integer.MIN_VALUE, 0}, {0, Integer.MAX_VALUE},
            {32, 0}, {0, 32}};
        for (int[] w : wrong) {
            Due.due("leap(" + w[0] + ", " + w[1] + ")", x.leap(w[0], w[1]), -1);
        }
        x.marry(0, 1);
        Due.due("one that's gone to itself", x.leap(0, 0), 0);
        Due.due("of unlike many", x.leap(0, 1), -1);
    }

    private static void leapRoundTheYear() {
        for (int a = 0; a < 20; a++) {
            ShutDays x = new ShutDays();
            x.house(a, -1, -1, 0, 0);
            x.house(0, -1, -1, 0, 0);
            x.house(19, -1, -1, 0, 0);
            Due.due("from " + a + " to 0", x.leap(0, 1), (20 - a) % 20);
            Due.due("from 0 to " + a, x.leap(1, 0), a);
            Due.due("from " + a + " to 19", x.leap(0, 2), 19 - a);
            Due.due("itself", x.leap(0, 0), 0);
        }
        ShutDays y = new ShutDays();
        y.house(18, 19, 0, 0, 0);
        y.house(0, 1, 2, 0, 0);
        Due.due("over the year's end", y.leap(0, 1), 2);
        Due.due("nearly round", y.leap(1, 0), 18);
    }

    private static void leapOfNone() {
        ShutDays x = new ShutDays();
        x.house(-1, -1, -1, 0, 0);
        x.house(-1, -1, -1, 0, 0);
        x.house(3, -1, -1, 0, 0);
        Due.due("none to none", x.leap(0, 1), 0);
        Due.due("none to one", x.leap(0, 2), -1);
        Due.due("one to none", x.leap(2, 0), -1);
    }

    private static void leapOfMany() {
        ShutDays x = new ShutDays();
        x.house(0, 10, -1, 0, 0);
        x.house(3, 13, -1, 0, 0);
        x.house(0, 9, -1, 0, 0);
        x.house(0, 11, -1, 0, 0);
        x.house(0, 1, 3, 0, 0);
        x.house(0, 2, 3, 0, 0);
        Due.due("the fewer of two", x.leap(0, 1), 3);
        Due.due("the fewer of two", x.leap(1, 0), 7);
        Due.due("9 apart, 11 apart round", x.leap(2, 3), 11);
        Due.due("back", x.leap(3, 2), 9);
        Due.due("mirrored isn't later", x.leap(4, 5), -1);
        Due.due("other distances", x.leap(0, 2), -1);
    }

    private static void imageAndBack() {
        ShutDays x = new ShutDays();
        x.house(4, -1, -1, 10, 10);
        x.day(7);
        Due.due("image", x.image(), 7);
        Due.due("back at once", x.back(), 7);
        x.day(60);
        x.house(5, -1, -1, 10, 10);
        x.marry(0, 1);
        for (int i = 0; i < 3; i++) {
            Due.due("back, it stays", x.back(), 7);
            Due.due("houses", x.about(0), 1);
            Due.due("purse", x.of(0, 1), 10 + 6 - 2);
            Due.due("gone", x.of(0, 3), 0);
            x.day(1 + i);
            x.knock(0);
            x.hat(0);
        }
        Due.due("no step is the image", x.about(3), 7 + 3 + 2);
    }

    /** What could be taken back when it was taken can be again, and nothing that was done since. */
    private static void imageKeepsSteps() {
        ShutDays x = new ShutDays();
        x.house(4, -1, -1, 10, 10);
        x.day(3);
        x.knock(0);
        x.image();
        x.undo();
        x.undo();
        x.hat(0);
        x.day(40);
        x.back();
        Due.due("four", x.about(3), 4);
        Due.due("the knock", x.undo(), 3);
        Due.due("book", x.book(-1, 0), 0);
        Due.due("friends", x.of(0, 2), 10);
        Due.due("a day", x.undo(), 2);
        Due.due("day", x.is(0), 2);
        Due.due("purse", x.of(0, 1), 12);
        x.undo();
        x.undo();
        Due.due("no more", x.undo(), -1);
        Due.due("to the image yet", x.back(), 3);
        Due.due("four again", x.about(3), 4);
    }

    private static void imageOfAFullObject() {
        ShutDays x = new ShutDays();
        for (int i = 0; i < 7; i++) {
            x.house(i, i + 7, -1, 100, 50);
        }
        for (int i = 0; i < 4; i++) {
            Due.told(x, "earns " + i + ";");
        }
        x.by(2);
        for (int i = 0; i < 8; i++) {
            x.seen(6, i, false);
            x.gossip(i % 7, (i + 1) % 7);
        }
        for (int i = 0; i < 41; i++) {
            x.knock(i % 7);
        }
        x.day(33);
        Due.due("image", x.image(), 33);
        x.seen(-1, 0, true);
        x.gossip(-1, 0);
        x.by(-1);
        x.marry(0, 1);
        x.years(5, 40);
        for (int i = 0; i < 30; i++) {
            x.undo();
        }
        Due.due("back", x.back(), 33);
        int[] full = {7, 4, 2, 30, 8, 8, 0};
        for (int what = 0; what <= 6; what++) {
            Due.due("about(" + what + ")", x.about(what), full[what]);
        }
        Due.due("book", x.book(-1, 0), 40);
        Due.due("the eldest's house", x.book(0, 1), 1);
        Due.due("seen", x.odds(6, 3, 0, false), 0);
        Due.due("gossip", x.knows(0, 1), 6);
        Due.due("law", x.of(3, 5), 2);
        Due.due("x", x.is(2), 131);
        Due.due("undo", x.undo(), 29);
        Due.due("day", x.is(0), 32);
    }

    private static void imageIsntTheTape() {
        ShutDays x = new ShutDays();
        Due.write(x, "day 1;");
        x.image();
        Due.due("the tape", x.about(6), 6);
        x.end(3);
        x.back();
        Due.due("as it is now", x.about(6), 3);
        Due.due("of three bytes: a fault", x.text(), -1);
        Due.due("fault", x.fault(0), 1);
        x.image();
        Due.told(x, "day 61;");
        x.back();
        Due.due("the latest fault", x.fault(0), 2);
        Due.due("its place", x.fault(1), 4);
    }

    private static void imageTakenAnew() {
        ShutDays x = new ShutDays();
        x.day(1);
        x.image();
        x.day(1);
        Due.due("another one", x.image(), 2);
        x.day(5);
        Due.due("to the later one", x.back(), 2);
        x.undo();
        Due.due("day", x.is(0), 1);
        Due.due("it's not changed by that", x.back(), 2);
        x.undo();
        x.undo();
        Due.due("taken at the beginning", x.image(), 0);
        x.day(60);
        Due.due("back", x.back(), 0);
        Due.due("no steps", x.about(3), 0);
    }
}

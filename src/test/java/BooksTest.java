/** Promises 41 to 46: knocks, offended, leap, image, back, about. */
public final class BooksTest {
    public static void main(String[] args) {
        knocks();
        leap();
        image();
        Due.finish();
    }

    private static void knocks() {
        ShutDays x = new ShutDays();
        Due.due("at all", x.knocks(-1, true), 0);
        Due.due("without", x.knocks(0, true), -2);
        Due.due("offended", x.offended(), -1);
        x.house(0, 1, -1, 0, 0);
        x.house(0, -1, -1, 0, 0);
        x.house(1, -1, -1, 0, 0);
        Due.due("knocks(3)", x.knocks(3, true), -2);
        Due.due("knocks(-2)", x.knocks(-2, true), -2);
        x.knock(2);
        Due.due("open ones don't offend", x.offended(), -1);
        x.knock(1);
        Due.due("shut", x.offended(), 1);
        x.knock(0);
        Due.due("the lowest", x.offended(), 0);
        x.day(1);
        x.knock(2);
        x.knock(2);
        x.knock(1);
        Due.due("the most", x.offended(), 2);
        Due.due("0 shut", x.knocks(0, true), 1);
        Due.due("0 open", x.knocks(0, false), 0);
        Due.due("1 open", x.knocks(1, false), 1);
        Due.due("2 shut", x.knocks(2, true), 2);
        Due.due("2 open", x.knocks(2, false), 1);
        Due.due("all shut", x.knocks(-1, true), 4);
        Due.due("all open", x.knocks(-1, false), 2);
        x.marry(2, 0);
        Due.due("gone, in the book all the same", x.offended(), 2);
        Due.due("gone, in the book all the same", x.knocks(2, true), 2);
    }

    private static void leap() {
        ShutDays x = new ShutDays();
        Due.due("without", x.leap(0, 0), -1);
        x.house(1, 2, 19, 0, 0);
        x.house(0, 3, 4, 0, 0);
        x.house(1, -1, -1, 0, 0);
        x.house(0, -1, -1, 0, 0);
        x.house(-1, -1, -1, 0, 0);
        x.house(-1, -1, -1, 0, 0);
        x.house(0, 10, -1, 0, 0);
        Due.due("none", x.leap(0, 1), -1);
        Due.due("some of it isn't all", x.leap(2, 0), -1);
        Due.due("19", x.leap(2, 3), 19);
        Due.due("1", x.leap(3, 2), 1);
        Due.due("none to none", x.leap(4, 5), 0);
        Due.due("none to one", x.leap(4, 2), -1);
        Due.due("itself", x.leap(6, 6), 0);
        Due.due("leap(7, 0)", x.leap(7, 0), -1);
        Due.due("leap(0, -1)", x.leap(0, -1), -1);
        ShutDays y = new ShutDays();
        y.house(1, 2, 19, 0, 0);
        y.house(0, 3, 4, 0, 0);
        y.house(4, 5, 2, 0, 0);
        y.house(3, 13, -1, 0, 0);
        y.house(18, 8, -1, 0, 0);
        Due.due("3 later", y.leap(0, 2), 3);
        Due.due("17 later", y.leap(2, 0), 17);
        Due.due("the fewest", y.leap(3, 4), 5);
        y.marry(0, 1);
        Due.due("gone or not", y.leap(0, 0), 0);
    }

    private static void image() {
        ShutDays x = new ShutDays();
        x.house(1, -1, -1, 10, 3);
        x.day(2);
        x.knock(0);
        x.seen(0, 4, true);
        Due.told(x, "earns 9;");
        x.by(0);
        Due.due("image", x.image(), 2);
        x.house(2, -1, -1, 5, 5);
        x.gossip(0, 1);
        x.seen(0, 5, true);
        Due.told(x, "earns 8;");
        x.by(1);
        x.undo();
        x.undo();
        x.day(30);
        x.hat(0);
        x.marry(0, 1);
        Due.told(x, "earns");
        Due.write(x, "loses 1;");
        for (int turn = 0; turn < 2; turn++) {
            Due.due("back", x.back(), 2);
            int[] want = {1, 1, 0, 3, 1, 0, turn == 0 ? 8 : 0};
            for (int what = 0; what <= 6; what++) {
                Due.due("about(" + what + ")", x.about(what), want[what]);
            }
            Due.due("the latest fault isn't of it", x.fault(0), turn == 0 ? 1 : 0);
            Due.due("dates", x.of(0, 0), 2);
            Due.due("purse", x.of(0, 1), 9);
            Due.due("friends", x.of(0, 2), 4);
            Due.due("gone", x.of(0, 3), 0);
            Due.due("the law", x.of(0, 5), 9);
            Due.due("x", x.is(2), 131);
            Due.due("book", x.book(-1, 0), 1);
            Due.due("sets", x.sets(0, 1, true), 16);
            Due.due("undo", x.undo(), 2);
            Due.due("book", x.book(-1, 0), 0);
            Due.due("undo", x.undo(), 1);
            Due.due("purse", x.of(0, 1), 11);
            Due.due("undo", x.undo(), 0);
            Due.due("purse", x.of(0, 1), 10);
            Due.due("undo", x.undo(), -1);
            x.end(8);
            x.text();
            x.house(3, -1, -1, 1, 1);
        }
        Due.due("image anew", x.image(), 0);
        x.day(3);
        Due.due("back to it", x.back(), 0);
        Due.due("houses", x.about(0), 2);
        toldThings();
    }

    /** What was seen and the gossip are as in the image, though others were told since. */
    private static void toldThings() {
        ShutDays x = new ShutDays();
        for (int i = 0; i < 4; i++) {
            x.house(i, -1, -1, 0, 0);
        }
        x.seen(1, 7, true);
        x.seen(1, 8, false);
        x.gossip(0, 1);
        x.gossip(1, 3);
        x.image();
        x.seen(-1, 0, true);
        x.seen(2, 5, false);
        x.seen(3, 6, true);
        x.gossip(-1, 0);
        x.gossip(3, 2);
        x.gossip(2, 1);
        x.back();
        Due.due("seen", x.sets(1, 1, true), 128);
        Due.due("not that", x.odds(1, 3, 8, false), 0);
        Due.due("seen of others", x.sets(2, 1, false) + x.sets(3, 1, false), 40);
        Due.due("gossip", x.knows(3, 0), 2);
        Due.due("gossip", x.knows(1, 3), -1);
    }
}

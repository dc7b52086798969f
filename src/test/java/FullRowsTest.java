/** Edges of promises 15, 18, 26, 36, 44, 45: the last place of each full row is taken back and brought back, too. */
public final class FullRowsTest {
    public static void main(String[] args) {
        seventhHouseTakenBack();
        seventhHouseOfAnImage();
        fortiethKnockTakenBack();
        wholeBookOfAnImage();
        thirtyStepsOfAnImage();
        thirtyStepsAfterMany();
        eightSeenOfAnImage();
        eightGossipsOfAnImage();
        fourTextsOfAnImage();
        longestScript();
        imageThenHouses();
        Due.finish();
    }

    private static ShutDays street() {
        ShutDays x = new ShutDays();
        for (int i = 0; i < 7; i++) {
            x.house(i, 10 + i, -1, 100 + i, 20 + i);
        }
        return x;
    }

    private static void asTold(String when, ShutDays x) {
        for (int i = 0; i < 7; i++) {
            Due.due(when + ": dates of " + i, x.of(i, 0), 1 << i | 1 << 10 + i);
            Due.due(when + ": purse of " + i, x.of(i, 1), 100 + i);
            Due.due(when + ": friends of " + i, x.of(i, 2), 20 + i);
            Due.due(when + ": gone " + i, x.of(i, 3), 0);
        }
    }

    private static void seventhHouseTakenBack() {
        ShutDays x = street();
        x.day(1);
        x.undo();
        asTold("a day", x);
        x.knock(6);
        x.undo();
        asTold("a knock", x);
        x.hat(6);
        x.undo();
        asTold("a hat", x);
        x.forget(16, 6);
        x.undo();
        asTold("forgotten", x);
        x.years(123, 40);
        x.undo();
        asTold("years", x);
        x.forget(16, 6);
        Due.due("what either has", x.marry(6, 5), 1 << 5 | 1 << 6 | 1 << 15);
        x.undo();
        x.undo();
        asTold("married", x);
    }

    private static void seventhHouseOfAnImage() {
        ShutDays x = street();
        x.image();
        x.day(1);
        x.knock(6);
        x.hat(6);
        x.forget(5, 5);
        x.forget(16, 6);
        x.marry(5, 6);
        x.years(123, 40);
        x.back();
        asTold("back", x);
    }

    private static ShutDays fullBook() {
        ShutDays x = street();
        for (int i = 0; i < 40; i++) {
            x.knock(i % 7);
            x.day(1);
        }
        return x;
    }

    private static void bookAsItWas(String when, ShutDays x) {
        Due.due(when + ": how many", x.book(-1, 0), 40);
        for (int i = 0; i < 40; i++) {
            int date = i % 20;
            int house = i % 7;
            Due.due(when + ": day of " + i, x.book(i, 0), i);
            Due.due(when + ": house of " + i, x.book(i, 1), house);
            Due.due(when + ": shut at " + i, x.book(i, 2), date == house || date == 10 + house ? 1 : 0);
        }
    }

    private static void fortiethKnockTakenBack() {
        ShutDays x = fullBook();
        bookAsItWas("full", x);
        x.knock(0);
        Due.due("the eldest fell out", x.book(0, 0), 1);
        Due.due("the latest", x.book(39, 0), 40);
        x.undo();
        bookAsItWas("taken back", x);
        x.years(123, 40);
        Due.due("the eldest fell out", x.book(0, 0) > 0, true);
        x.undo();
        bookAsItWas("years taken back", x);
    }

    private static void wholeBookOfAnImage() {
        ShutDays x = fullBook();
        x.image();
        for (int i = 0; i < 41; i++) {
            x.knock(6);
        }
        Due.due("another book", x.book(39, 1), 6);
        x.back();
        bookAsItWas("back", x);
    }

    /** Each place of the row of steps is written anew before the image is gone back to. */
    private static void thirtyStepsOfAnImage() {
        ShutDays x = street();
        x.day(47);
        x.image();
        for (int i = 0; i < 61; i++) {
            x.knock(i % 7);
        }
        for (int turn = 0; turn < 2; turn++) {
            Due.due("back", x.back(), 47);
            Due.due("no knocks", x.book(-1, 0), 0);
            for (int left = 29; left >= 0; left--) {
                Due.due("undo", x.undo(), left);
                Due.due("day", x.is(0), 17 + left);
            }
            Due.due("no more", x.undo(), -1);
        }
    }

    private static void thirtyStepsAfterMany() {
        for (int ahead : new int[] {29, 30, 31, 59, 60, 61}) {
            ShutDays x = street();
            for (int i = 0; i < ahead; i++) {
                x.day(1);
            }
            int kept = Math.min(30, ahead);
            Due.due(ahead + " steps", x.about(3), kept);
            for (int left = kept - 1; left >= 0; left--) {
                Due.due("undo", x.undo(), left);
                Due.due("day", x.is(0), ahead - kept + left);
            }
            Due.due("no more", x.undo(), -1);
            Due.due("day", x.is(0), ahead - kept);
        }
    }

    private static void eightSeenOfAnImage() {
        ShutDays x = street();
        for (int i = 0; i < 8; i++) {
            x.seen(4, i, false);
        }
        x.image();
        x.seen(-1, 0, false);
        for (int i = 0; i < 8; i++) {
            x.seen(5, 19 - i, true);
        }
        Due.due("eight shut ones", x.sets(5, 3, false), 0);
        x.back();
        Due.due("eight", x.about(4), 8);
        Due.due("nothing of the other", x.sets(5, 1, false), 20);
        Due.due("twelve are left", x.sets(4, 1, false), 12);
        for (int date = 0; date < 20; date++) {
            Due.due("odds of " + date, x.odds(4, 1, date, false), date < 8 ? 0 : 1);
        }
        Due.due("the ninth", x.seen(4, 8, false), -2);
    }

    private static void eightGossipsOfAnImage() {
        ShutDays x = street();
        for (int i = 0; i < 7; i++) {
            x.gossip(i, (i + 1) % 7);
        }
        x.gossip(0, 4);
        x.image();
        x.gossip(-1, 0);
        for (int i = 0; i < 8; i++) {
            x.gossip(3, 2);
        }
        x.back();
        Due.due("eight", x.about(5), 8);
        int[] want = {0, 1, 2, 3, 1, 2, 3};
        for (int i = 0; i < 7; i++) {
            Due.due("what 0 knows comes to " + i, x.knows(i, 0), want[i]);
        }
        Due.due("what 3 knows comes to 2", x.knows(2, 3), 6);
        Due.due("the ninth", x.gossip(3, 2), -2);
    }

    private static void fourTextsOfAnImage() {
        ShutDays x = new ShutDays();
        x.house(-1, -1, -1, 0, 0);
        for (int i = 1; i <= 3; i++) {
            Due.told(x, "earns " + i + ";");
        }
        x.image();
        for (int turn = 4; turn <= 6; turn++) {
            Due.due("the fourth", Due.told(x, "earns " + turn + ";"), 3);
            Due.due("the fifth", Due.told(x, "earns 99;"), -1);
            for (int i = 0; i < 4; i++) {
                x.by(i);
                Due.due("law " + i, x.of(0, 5), i < 3 ? i + 1 : turn);
            }
            Due.due("whose", x.whose(1), 3);
            x.back();
            Due.due("three", x.about(1), 3);
            Due.due("whose", x.whose(1), 2);
        }
    }

    /** The last of 24 clauses is done, and is told when it can't be. */
    private static void longestScript() {
        ShutDays x = street();
        String days = "day 1;".repeat(23);
        Due.due("24 clauses", Due.told(x, days + "forget 19 of 6;"), 0);
        Due.due("the last can't be", x.played(0), 23);
        Due.due("what was done stays", x.is(0), 23);
        Due.due("24 clauses", Due.told(x, days + "marry 6 to 5;"), 1);
        x.forget(16, 6);
        Due.due("all is done", x.played(1), -1);
        Due.due("6 is gone", x.of(6, 3), 1);
        Due.due("24 clauses", Due.told(x, days + "house 19 purse 1 friends 1;"), 2);
        Due.due("there are 7", x.played(2), 23);
        ShutDays y = new ShutDays();
        Due.told(y, days + "house 19 purse 9999 friends 99;");
        Due.due("all is done", y.played(0), -1);
        Due.due("its date", y.of(0, 0), 1 << 19);
        Due.due("its purse", y.of(0, 1), 9999);
        Due.due("its friends", y.of(0, 2), 99);
    }

    /** Houses that an image hasn't are gone with it; the next is told anew in their place. */
    private static void imageThenHouses() {
        ShutDays x = new ShutDays();
        x.house(1, -1, -1, 1, 1);
        x.day(1);
        x.image();
        for (int i = 0; i < 6; i++) {
            x.house(5, -1, -1, 50, 50);
        }
        x.marry(6, 1);
        x.back();
        Due.due("one", x.about(0), 1);
        Due.due("of(1, 1)", x.of(1, 1), -1);
        Due.due("told anew", x.house(7, -1, -1, 7, 7), 1);
        Due.due("the day is taken back", x.undo(), 0);
        Due.due("as told", x.of(1, 0), 128);
        Due.due("as told", x.of(1, 1), 7);
        for (int i = 2; i < 7; i++) {
            Due.due("told anew", x.house(8, -1, -1, 8, 8), i);
            Due.due("not gone", x.of(i, 3), 0);
        }
    }
}

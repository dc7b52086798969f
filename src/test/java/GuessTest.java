/** Promises 26 to 31: seen, sets, odds, nextKnock, thieves, night. */
public final class GuessTest {
    public static void main(String[] args) {
        seen();
        sets();
        byTheBook();
        odds();
        nextKnock();
        thieves();
        gone();
        Due.finish();
    }

    private static void seen() {
        ShutDays x = new ShutDays();
        Due.due("without houses", x.seen(0, 0, true), -2);
        Due.due("none any more", x.seen(-1, 0, true), 0);
        x.house(3, -1, -1, 0, 0);
        Due.due("no date", x.seen(0, 20, true), -2);
        Due.due("no date", x.seen(0, -1, true), -2);
        Due.due("no house", x.seen(1, 0, true), -2);
        Due.due("no house", x.seen(-2, 0, true), -2);
        for (int i = 1; i <= 8; i++) {
            Due.due("seen " + i, x.seen(0, i, false), i);
        }
        Due.due("the ninth", x.seen(0, 9, false), -2);
        Due.due("about(4)", x.about(4), 8);
        Due.due("none any more", x.seen(-1, 0, false), 0);
        Due.due("about(4)", x.about(4), 0);
        Due.due("no step", x.about(3), 0);
    }

    private static void sets() {
        ShutDays x = new ShutDays();
        Due.due("without", x.sets(0, 1, false), -1);
        x.house(3, -1, -1, 0, 0);
        x.house(4, -1, -1, 0, 0);
        Due.due("sets(0, 0)", x.sets(0, 0, false), -1);
        Due.due("sets(0, 4)", x.sets(0, 4, false), -1);
        Due.due("sets(2, 1)", x.sets(2, 1, false), -1);
        Due.due("sets(-1, 1)", x.sets(-1, 1, true), -1);
        Due.due("of one", x.sets(0, 1, false), 20);
        Due.due("of two", x.sets(0, 2, false), 190);
        Due.due("of three", x.sets(0, 3, false), 1140);
        Due.due("nothing is sure", x.sets(0, 3, true), 0);
        x.seen(0, 3, true);
        x.seen(0, 7, true);
        Due.due("two are shut", x.sets(0, 1, false), 0);
        Due.due("none is sure of none", x.sets(0, 1, true), 0);
        Due.due("just these", x.sets(0, 2, false), 1);
        Due.due("these are sure", x.sets(0, 2, true), 136);
        Due.due("and a third", x.sets(0, 3, false), 18);
        Due.due("these are sure", x.sets(0, 3, true), 136);
        x.seen(0, 0, false);
        x.seen(0, 0, false);
        Due.due("and a third", x.sets(0, 3, false), 17);
        Due.due("the other house", x.sets(1, 3, false), 1140);
        x.seen(0, 7, false);
        Due.due("it can't be", x.sets(0, 3, false), 0);
        Due.due("it can't be", x.sets(0, 3, true), 0);
        x.seen(-1, 0, true);
        x.seen(0, 0, true);
        x.seen(0, 19, true);
        Due.due("the first and the last", x.sets(0, 2, true), 1 | 1 << 19);
    }

    private static void byTheBook() {
        ShutDays x = new ShutDays();
        x.house(3, -1, -1, 0, 0);
        for (int i = 0; i < 20; i++) {
            if (i != 5 && i != 6 && i != 3) {
                x.knock(0);
            }
            x.day(1);
        }
        Due.due("three are left", x.sets(0, 1, false), 3);
        Due.due("not sure yet", x.sets(0, 2, true), 0);
        Due.due("all three", x.sets(0, 3, true), 104);
        x.seen(0, 5, false);
        Due.due("two are left", x.sets(0, 2, false), 1);
        Due.due("sure", x.sets(0, 2, true), 72);
        Due.due("too few", x.sets(0, 3, false), 0);
        x.day(3);
        x.knock(0);
        Due.due("sure", x.sets(0, 1, true), 8);
        x.undo();
        Due.due("taken back", x.sets(0, 1, true), 0);
    }

    private static void odds() {
        ShutDays x = new ShutDays();
        Due.due("without", x.odds(0, 1, 0, false), -1);
        x.house(3, -1, -1, 0, 0);
        Due.due("odds(0, 0, 0)", x.odds(0, 0, 0, false), -1);
        Due.due("odds(0, 4, 0)", x.odds(0, 4, 0, true), -1);
        Due.due("odds(0, 1, 20)", x.odds(0, 1, 20, true), -1);
        Due.due("odds(0, 1, -1)", x.odds(0, 1, -1, true), -1);
        Due.due("odds(1, 1, 0)", x.odds(1, 1, 0, true), -1);
        Due.due("2 of 20", x.odds(0, 2, 9, false), 1);
        Due.due("2 of 20", x.odds(0, 2, 9, true), 10);
        Due.due("3 of 20", x.odds(0, 3, 9, false), 3);
        Due.due("3 of 20", x.odds(0, 3, 9, true), 20);
        x.seen(0, 4, true);
        x.seen(0, 5, false);
        Due.due("sure", x.odds(0, 3, 4, false), 1);
        Due.due("sure", x.odds(0, 3, 4, true), 1);
        Due.due("it isn't", x.odds(0, 3, 5, false), 0);
        Due.due("it isn't", x.odds(0, 3, 5, true), 1);
        Due.due("2 of 18", x.odds(0, 3, 6, false), 1);
        Due.due("2 of 18", x.odds(0, 3, 6, true), 9);
        Due.due("no room", x.odds(0, 1, 6, false), 0);
        x.seen(0, 4, false);
        Due.due("no sets", x.odds(0, 3, 4, false), 0);
        Due.due("no sets", x.odds(0, 3, 4, true), 1);
    }

    private static void nextKnock() {
        ShutDays x = new ShutDays();
        Due.due("without", x.nextKnock(0, 1), -1);
        x.house(3, -1, -1, 0, 0);
        Due.due("nextKnock(0, 0)", x.nextKnock(0, 0), -1);
        Due.due("nextKnock(0, 4)", x.nextKnock(0, 4), -1);
        Due.due("nextKnock(1, 1)", x.nextKnock(1, 1), -1);
        Due.due("the lowest", x.nextKnock(0, 3), 0);
        x.seen(0, 0, true);
        x.seen(0, 1, false);
        Due.due("the lowest that is neither", x.nextKnock(0, 3), 2);
        Due.due("nothing is left to ask", x.nextKnock(0, 1), -1);
        x.seen(0, 1, true);
        Due.due("no sets", x.nextKnock(0, 3), -1);
        ShutDays y = new ShutDays();
        y.house(3, -1, -1, 0, 0);
        for (int i = 0; i < 20; i++) {
            if (i < 17) {
                y.knock(0);
            }
            y.day(1);
        }
        Due.due("on 3 it was shut", y.sets(0, 2, true), 8);
        Due.due("three are left", y.nextKnock(0, 2), 17);
        Due.due("in 2 of 3", y.odds(0, 3, 17, false), 2);
        Due.due("the lowest", y.nextKnock(0, 3), 17);
    }

    private static void thieves() {
        ShutDays x = new ShutDays();
        Due.due("without", x.thieves(0, 1, false), 0);
        Due.due("without", x.thieves(0, 1, true), -1);
        Due.due("night without", x.night(1), 0);
        x.house(0, 1, -1, 5, 0);
        x.house(0, 2, -1, 7, 0);
        x.house(3, -1, -1, 50, 0);
        x.house(0, -1, -1, 12, 0);
        x.house(4, 0, -1, 0, 0);
        x.house(0, 5, -1, 12, 0);
        Due.due("no date", x.thieves(20, 1, false), -2);
        Due.due("no date", x.thieves(-1, 1, true), -2);
        Due.due("k 0", x.thieves(0, 0, false), -2);
        Due.due("k 8", x.thieves(0, 8, false), -2);
        Due.due("one", x.thieves(0, 1, false), 12);
        Due.due("the lowest", x.thieves(0, 1, true), 3);
        Due.due("two", x.thieves(0, 2, false), 12);
        Due.due("the lowest of like ones", x.thieves(0, 2, true), 0);
        Due.due("three", x.thieves(0, 3, false), 24);
        Due.due("from", x.thieves(0, 3, true), 3);
        Due.due("seven", x.thieves(0, 7, false), 24);
        Due.due("nothing in it", x.thieves(4, 7, false), 0);
        Due.due("all the same", x.thieves(4, 7, true), 4);
        Due.due("nobody is out", x.thieves(6, 7, false), 0);
        Due.due("nobody is out", x.thieves(6, 7, true), -1);
        Due.due("night(1)", x.night(1), 3);
        Due.due("night(7)", x.night(7), 3);
        Due.due("night(0)", x.night(0), -1);
        Due.due("night(8)", x.night(8), -1);
        x.forget(3, 2);
        Due.due("night(3)", x.night(3), 0);
    }

    private static void gone() {
        ShutDays x = new ShutDays();
        x.house(0, -1, -1, 5, 0);
        x.house(9, -1, -1, 100, 0);
        x.house(0, -1, -1, 7, 0);
        x.house(8, -1, -1, 0, 0);
        Due.due("apart", x.thieves(0, 7, false), 7);
        x.marry(1, 3);
        Due.due("the one between is gone", x.thieves(0, 2, false), 12);
        Due.due("from", x.thieves(0, 2, true), 0);
        Due.due("one", x.thieves(0, 1, false), 7);
        Due.due("one", x.thieves(0, 1, true), 2);
        x.marry(0, 2);
        Due.due("the first that isn't gone", x.thieves(0, 7, true), 2);
        Due.due("how much", x.thieves(0, 7, false), 12);
        Due.due("night", x.night(7), 8);
        Due.due("what was seen of one that's gone", x.seen(0, 4, true), 1);
        Due.due("its sets", x.sets(0, 1, true), 16);
    }
}

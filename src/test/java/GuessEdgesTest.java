/** Edges of promises 26 to 31: what was seen, sets of none and of one, odds at 0 and 1, rows of thieves. */
public final class GuessEdgesTest {
    public static void main(String[] args) {
        seenRefused();
        seenTillEight();
        seenNoneAnyMore();
        setsRefused();
        setsOfAllSizes();
        setsAgainstOneAnother();
        setsForced();
        setsByTheBook();
        setsByTheBookAlone();
        oddsRefused();
        oddsInLowestTerms();
        oddsOfNone();
        nextKnockRefused();
        nextKnockNearHalf();
        thievesRefused();
        thievesRows();
        thievesPastGoneOnes();
        thievesOfLikeOnes();
        nightEdges();
        Due.finish();
    }

    private static ShutDays street(int many) {
        ShutDays x = new ShutDays();
        for (int i = 0; i < many; i++) {
            x.house(i, -1, -1, 10 * i, 0);
        }
        return x;
    }

    private static void seenRefused() {
        ShutDays x = street(2);
        int[][] wrong = {{-2, 0}, {2, 0}, {7, 0}, {0, -1}, {0, 20}, {0, -2}, {32, 0}, {Integer.MIN_VALUE, 0},
            {Integer.MAX_VALUE, 0}, {0, Integer.MIN_VALUE}, {0, Integer.MAX_VALUE}, {0, 32}};
        for (int[] w : wrong) {
            Due.due("seen(" + w[0] + ", " + w[1] + ")", x.seen(w[0], w[1], true), -2);
        }
        Due.due("none", x.about(4), 0);
        Due.due("the first date", x.seen(0, 0, true), 1);
        Due.due("the last date", x.seen(1, 19, false), 2);
        Due.due("refused among them", x.seen(2, 0, false), -2);
        Due.due("two yet", x.about(4), 2);
    }

    private static void seenTillEight() {
        ShutDays x = street(1);
        for (int i = 1; i <= 7; i++) {
            x.seen(0, 5, true);
        }
        Due.due("seven of the same", x.about(4), 7);
        Due.due("the eighth", x.seen(0, 6, false), 8);
        Due.due("the ninth", x.seen(0, 5, false), -2);
        Due.due("it wasn't told", x.sets(0, 1, false), 1);
        Due.due("eight", x.about(4), 8);
        Due.due("no step", x.about(3), 0);
    }

    private static void seenNoneAnyMore() {
        ShutDays x = street(1);
        Due.due("none at all", x.seen(-1, 0, true), 0);
        x.seen(0, 5, true);
        x.seen(0, 6, true);
        Due.due("none any more, whatever the date", x.seen(-1, 99, false), 0);
        Due.due("none", x.about(4), 0);
        Due.due("nothing is known", x.sets(0, 1, false), 20);
        Due.due("from the first on", x.seen(0, 7, true), 1);
        Due.due("that alone", x.sets(0, 1, true), 128);
    }

    private static void setsRefused() {
        ShutDays x = street(2);
        int[][] wrong = {{0, 0}, {0, 4}, {0, -1}, {-1, 1}, {2, 1}, {7, 1}, {0, Integer.MIN_VALUE}, {0, Integer.MAX_VALUE},
            {Integer.MIN_VALUE, 1}, {Integer.MAX_VALUE, 1}, {32, 1}};
        for (int[] w : wrong) {
            Due.due("sets(" + w[0] + ", " + w[1] + ")", x.sets(w[0], w[1], false), -1);
            Due.due("sets(" + w[0] + ", " + w[1] + ")", x.sets(w[0], w[1], true), -1);
            Due.due("nextKnock(" + w[0] + ", " + w[1] + ")", x.nextKnock(w[0], w[1]), -1);
            Due.due("odds(" + w[0] + ", " + w[1] + ")", x.odds(w[0], w[1], 0, false), -1);
            Due.due("odds(" + w[0] + ", " + w[1] + ")", x.odds(w[0], w[1], 0, true), -1);
        }
    }

    /** By so many shut, so many open dates that were seen: choices of what is left. */
    private static void setsOfAllSizes() {
        int[][] rows = {
            // shut, open, of one, of two, of three
            {0, 0, 20, 190, 1140}, {1, 0, 1, 19, 171}, {2, 0, 0, 1, 18}, {3, 0, 0, 0, 1}, {4, 0, 0, 0, 0},
            {0, 1, 19, 171, 969}, {1, 1, 1, 18, 153}, {2, 1, 0, 1, 17}, {3, 5, 0, 0, 1}, {0, 8, 12, 66, 220},
        };
        for (int[] r : rows) {
            ShutDays x = street(2);
            for (int i = 0; i < r[0]; i++) {
                x.seen(1, 19 - i, true);
            }
            for (int i = 0; i < r[1]; i++) {
                x.seen(1, i, false);
            }
            for (int m = 1; m <= 3; m++) {
                Due.due(r[0] + " shut, " + r[1] + " open, of " + m, x.sets(1, m, false), r[1 + m]);
                boolean some = r[1 + m] > 0;
                int shut = ((1 << r[0]) - 1) << 20 - r[0];
                Due.due("sure", x.sets(1, m, true), some ? shut : 0);
                Due.due("of the other house", x.sets(0, m, false), m == 1 ? 20 : m == 2 ? 190 : 1140);
            }
        }
    }

    private static void setsAgainstOneAnother() {
        ShutDays x = street(1);
        x.seen(0, 4, true);
        x.seen(0, 4, true);
        Due.due("twice the same", x.sets(0, 1, false), 1);
        x.seen(0, 4, false);
        for (int m = 1; m <= 3; m++) {
            Due.due("shut and open", x.sets(0, m, false), 0);
            Due.due("nothing is sure of none", x.sets(0, m, true), 0);
            Due.due("odds", x.odds(0, m, 4, false), 0);
            Due.due("odds", x.odds(0, m, 4, true), 1);
            Due.due("odds of another date", x.odds(0, m, 5, false), 0);
            Due.due("odds of another date", x.odds(0, m, 5, true), 1);
            Due.due("no next knock", x.nextKnock(0, m), -1);
        }
    }

    /** All dates but some were open: what is left is sure, as soon as just m are left. */
    private static void setsForced() {
        for (int left = 0; left <= 3; left++) {
            ShutDays x = new ShutDays();
            x.house(-1, -1, -1, 0, 0);
            for (int date = 0; date < 20; date++) {
                if (date >= left) {
                    x.knock(0);
                }
                x.day(1);
            }
            int[] choose = {1, left, left * (left - 1) / 2, left * (left - 1) * (left - 2) / 6};
            for (int m = 1; m <= 3; m++) {
                Due.due(left + " left, of " + m, x.sets(0, m, false), choose[m]);
                Due.due("sure", x.sets(0, m, true), left == m ? (1 << left) - 1 : 0);
                Due.due("next knock", x.nextKnock(0, m), left > m ? 0 : -1);
                Due.due("odds", x.odds(0, m, 0, false), left < m ? 0 : left == m ? 1 : m);
                Due.due("odds", x.odds(0, m, 0, true), left < m ? 1 : left == m ? 1 : left);
            }
        }
    }

    private static void setsByTheBook() {
        ShutDays x = new ShutDays();
        x.house(0, -1, -1, 0, 0);
        x.house(0, -1, -1, 0, 0);
        x.knock(0);
        Due.due("shut on 0", x.sets(0, 1, true), 1);
        x.day(20);
        x.knock(0);
        Due.due("on 0 of another year", x.sets(0, 1, true), 1);
        x.forget(0, 0);
        x.knock(0);
        Due.due("open on 0: it can't be", x.sets(0, 1, false), 0);
        x.undo();
        Due.due("taken back", x.sets(0, 1, false), 1);
        x.day(1);
        x.knock(0);
        Due.due("open on 1", x.odds(0, 2, 1, false), 0);
        Due.due("of two", x.sets(0, 2, false), 18);
        x.seen(0, 2, false);
        Due.due("seen as well", x.sets(0, 2, false), 17);
        Due.due("not of the other house", x.sets(1, 2, false), 190);
    }

    /** What fell out of the book isn't known any more. */
    private static void setsByTheBookAlone() {
        ShutDays x = new ShutDays();
        x.house(0, -1, -1, 0, 0);
        x.house(5, -1, -1, 0, 0);
        x.knock(0);
        for (int i = 0; i < 39; i++) {
            x.knock(1);
        }
        Due.due("the eldest of 40", x.sets(0, 1, false), 1);
        x.knock(1);
        Due.due("it fell out", x.sets(0, 1, false), 20);
        x.undo();
        Due.due("it is back", x.sets(0, 1, false), 1);
    }

    private static void oddsRefused() {
        ShutDays x = street(1);
        for (int date : new int[] {Integer.MIN_VALUE, -2, -1, 20, 32, Integer.MAX_VALUE}) {
            Due.due("odds of " + date, x.odds(0, 1, date, false), -1);
            Due.due("odds of " + date, x.odds(0, 1, date, true), -1);
        }
        Due.due("0", x.odds(0, 1, 0, true), 20);
        Due.due("19", x.odds(0, 1, 19, true), 20);
    }

    private static void oddsInLowestTerms() {
        ShutDays x = street(1);
        int[][] want = {{1, 20}, {1, 10}, {3, 20}};
        for (int m = 1; m <= 3; m++) {
            Due.due("upper", x.odds(0, m, 7, false), want[m - 1][0]);
            Due.due("lower", x.odds(0, m, 7, true), want[m - 1][1]);
        }
        for (int i = 0; i < 8; i++) {
            x.seen(0, i, false);
        }
        int[][] then = {{1, 12}, {1, 6}, {1, 4}};
        for (int m = 1; m <= 3; m++) {
            Due.due("upper", x.odds(0, m, 8, false), then[m - 1][0]);
            Due.due("lower", x.odds(0, m, 8, true), then[m - 1][1]);
            Due.due("open: 0", x.odds(0, m, 0, false), 0);
            Due.due("by 1", x.odds(0, m, 0, true), 1);
        }
    }

    private static void oddsOfNone() {
        ShutDays x = street(1);
        x.seen(0, 1, true);
        x.seen(0, 2, true);
        Due.due("two don't go into one", x.odds(0, 1, 1, false), 0);
        Due.due("by 1", x.odds(0, 1, 1, true), 1);
        Due.due("sure", x.odds(0, 2, 1, false), 1);
        Due.due("by 1", x.odds(0, 2, 1, true), 1);
        Due.due("no room for another", x.odds(0, 2, 3, false), 0);
        Due.due("by 1", x.odds(0, 2, 3, true), 1);
        Due.due("1 of 18", x.odds(0, 3, 3, true), 18);
    }

    private static void nextKnockRefused() {
        ShutDays x = street(1);
        Due.due("the lowest of all", x.nextKnock(0, 1), 0);
        x.seen(0, 0, false);
        Due.due("not one in none", x.nextKnock(0, 1), 1);
        x.seen(0, 9, true);
        Due.due("one set alone", x.nextKnock(0, 1), -1);
        Due.due("not one in all", x.nextKnock(0, 2), 1);
        x.seen(0, 8, true);
        Due.due("one set alone", x.nextKnock(0, 2), -1);
        Due.due("of three there are more", x.nextKnock(0, 3), 1);
        x.seen(0, 1, true);
        Due.due("one set alone", x.nextKnock(0, 3), -1);
        x.seen(0, 2, true);
        Due.due("no set", x.nextKnock(0, 3), -1);
    }

    /** Four dates are left: of one each is in 1 of 4, of two in 3 of 6, of three in 3 of 4. */
    private static void nextKnockNearHalf() {
        ShutDays x = new ShutDays();
        x.house(-1, -1, -1, 0, 0);
        for (int date = 0; date < 20; date++) {
            if (date % 5 != 4) {
                x.knock(0);
            }
            x.day(1);
        }
        for (int m = 1; m <= 3; m++) {
            Due.due("the lowest", x.nextKnock(0, m), 4);
        }
        Due.due("half", x.odds(0, 2, 19, true), 2);
        x.seen(0, 4, true);
        Due.due("4 is in all now", x.nextKnock(0, 2), 9);
        Due.due("4 is in all now", x.nextKnock(0, 3), 9);
        x.seen(0, 9, false);
        x.seen(0, 14, false);
        Due.due("19 is in all, too", x.nextKnock(0, 2), -1);
        Due.due("no set of three", x.nextKnock(0, 3), -1);
    }

    private static void thievesRefused() {
        ShutDays x = street(3);
        int[][] wrong = {{-1, 1}, {20, 1}, {0, 0}, {0, 8}, {0, -1}, {Integer.MIN_VALUE, 1}, {Integer.MAX_VALUE, 1},
            {0, Integer.MIN_VALUE}, {0, Integer.MAX_VALUE}, {32, 1}};
        for (int[] w : wrong) {
            Due.due("thieves(" + w[0] + ", " + w[1] + ")", x.thieves(w[0], w[1], false), -2);
            Due.due("thieves(" + w[0] + ", " + w[1] + ")", x.thieves(w[0], w[1], true), -2);
        }
        Due.due("on 19 none is shut", x.thieves(19, 7, false), 0);
        Due.due("none", x.thieves(19, 7, true), -1);
        Due.due("an empty purse", x.thieves(0, 1, false), 0);
        Due.due("a house all the same", x.thieves(0, 1, true), 0);
        for (int k : new int[] {Integer.MIN_VALUE, -1, 0, 8, Integer.MAX_VALUE}) {
            Due.due("night(" + k + ")", x.night(k), -1);
        }
    }

    /** Purses along the street: 5 9 1 | open | 8 7 3, all others shut on 19. */
    private static void thievesRows() {
        ShutDays x = new ShutDays();
        int[] purses = {5, 9, 1, 99, 8, 7, 3};
        for (int i = 0; i < 7; i++) {
            x.house(i == 3 ? 0 : 19, -1, -1, purses[i], 0);
        }
        int[] much = {9, 15, 18, 18, 18, 18, 18};
        int[] first = {1, 4, 4, 4, 4, 4, 4};
        for (int k = 1; k <= 7; k++) {
            Due.due("k " + k, x.thieves(19, k, false), much[k - 1]);
            Due.due("first, k " + k, x.thieves(19, k, true), first[k - 1]);
        }
        Due.due("the open one, when it's shut", x.thieves(0, 7, false), 99);
        Due.due("it", x.thieves(0, 7, true), 3);
        ShutDays y = new ShutDays();
        for (int i = 0; i < 7; i++) {
            y.house(19, -1, -1, 9999, 0);
        }
        Due.due("all seven", y.thieves(19, 7, false), 69993);
        Due.due("six", y.thieves(19, 6, false), 59994);
        Due.due("the lowest", y.thieves(19, 6, true), 0);
    }

    private static void thievesPastGoneOnes() {
        ShutDays x = new ShutDays();
        for (int i = 0; i < 7; i++) {
            x.house(i == 5 ? 3 : 4, -1, -1, 10 + i, 0);
        }
        x.marry(0, 6);
        x.marry(2, 3);
        // 0 and 2 are gone: 11, 25 (12 and 13), 14; 5 is open; 26 (10 and 16).
        Due.due("one", x.thieves(4, 1, false), 26);
        Due.due("the last", x.thieves(4, 1, true), 6);
        Due.due("two", x.thieves(4, 2, false), 39);
        Due.due("3 and 4", x.thieves(4, 2, true), 3);
        Due.due("three, over the gap", x.thieves(4, 3, false), 50);
        Due.due("the first that isn't gone", x.thieves(4, 3, true), 1);
        Due.due("seven", x.thieves(4, 7, false), 50);
        Due.due("a gone one alone is none", x.thieves(5, 7, true), -1);
        x.marry(1, 5);
        Due.due("what either has", x.of(5, 0), 24);
        Due.due("all are shut", x.thieves(4, 7, false), 25 + 14 + 26 + 26);
        Due.due("from the third on", x.thieves(4, 7, true), 3);
        x.marry(6, 5);
        Due.due("the last is gone", x.thieves(4, 1, false), 52);
        Due.due("5", x.thieves(4, 1, true), 5);
    }

    private static void thievesOfLikeOnes() {
        ShutDays x = new ShutDays();
        x.house(4, -1, -1, 0, 0);
        x.house(4, -1, -1, 6, 0);
        x.house(5, -1, -1, 6, 0);
        x.house(4, -1, -1, 6, 0);
        Due.due("6 and 6 alone", x.thieves(4, 1, false), 6);
        Due.due("the lowest with 6", x.thieves(4, 1, true), 1);
        Due.due("0 and 6", x.thieves(4, 2, false), 6);
        Due.due("the lowest row", x.thieves(4, 2, true), 0);
    }

    private static void nightEdges() {
        ShutDays x = new ShutDays();
        x.house(-1, -1, -1, 50, 0);
        Due.due("no dates: the lowest", x.night(1), 0);
        x.house(19, 18, -1, 0, 0);
        Due.due("nothing to take: the lowest", x.night(7), 0);
        x.house(19, 17, -1, 1, 0);
        Due.due("of like ones the lowest", x.night(1), 17);
        x.house(19, -1, -1, 1, 0);
        Due.due("by one each", x.night(1), 17);
        Due.due("by two", x.night(2), 19);
        x.marry(3, 2);
        Due.due("one has both", x.night(2), 19);
        x.forget(19, 2);
        Due.due("nothing again", x.night(7), 0);
    }
}

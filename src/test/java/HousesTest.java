/** Promises 1, 2, 16, 17, 46: a new object, house, of, is, about. */
public final class HousesTest {
    public static void main(String[] args) {
        newObject();
        houses();
        wrongHouses();
        ofHouses();
        Due.finish();
    }

    private static void newObject() {
        ShutDays x = new ShutDays();
        for (int what = 0; what <= 6; what++) {
            Due.due("about(" + what + ")", x.about(what), what == 2 ? -1 : 0);
        }
        Due.due("about(7)", x.about(7), -2);
        Due.due("about(-1)", x.about(-1), -2);
        Due.due("is(0)", x.is(0), 0);
        Due.due("is(1)", x.is(1), 0);
        Due.due("is(2)", x.is(2), 131);
        Due.due("is(3)", x.is(3), 0);
        Due.due("is(4)", x.is(4), -2);
        Due.due("is(-1)", x.is(-1), -2);
        x.house(4, -1, -1, 7, 7);
        x.day(5);
        Due.due("back() to the new one", x.back(), 0);
        Due.due("about(0) then", x.about(0), 0);
        Due.due("about(3) then", x.about(3), 0);
        Due.due("house then", x.house(1, -1, -1, 0, 0), 0);
    }

    private static void houses() {
        ShutDays x = new ShutDays();
        Due.due("no dates", x.house(-1, -1, -1, 0, 0), 0);
        Due.due("the third alone", x.house(-1, -1, 19, 9999, 99), 1);
        Due.due("three", x.house(19, 0, 7, 1, 1), 2);
        Due.due("first, last", x.house(5, -1, 6, 1, 1), 3);
        Due.due("shut 0", x.of(0, 0), 0);
        Due.due("shut 1", x.of(1, 0), 1 << 19);
        Due.due("shut 2", x.of(2, 0), 1 << 19 | 1 | 1 << 7);
        Due.due("shut 3", x.of(3, 0), 96);
        Due.due("no step", x.about(3), 0);
        for (int i = 4; i < 7; i++) {
            Due.due("house " + i, x.house(i, -1, -1, 0, 0), i);
        }
        Due.due("the eighth", x.house(1, -1, -1, 0, 0), -1);
        Due.due("about(0)", x.about(0), 7);
    }

    private static void wrongHouses() {
        ShutDays x = new ShutDays();
        int[][] wrong = {
            {-2, -1, -1, 0, 0}, {20, -1, -1, 0, 0}, {1, 20, -1, 0, 0}, {1, -2, -1, 0, 0},
            {1, 2, 20, 0, 0}, {1, 2, -2, 0, 0}, {1, 1, -1, 0, 0}, {1, -1, 1, 0, 0}, {-1, 1, 1, 0, 0},
            {1, 2, 2, 0, 0}, {1, -1, -1, -1, 0}, {1, -1, -1, 10000, 0}, {1, -1, -1, 0, -1},
            {1, -1, -1, 0, 100}, {Integer.MIN_VALUE, 1, 2, 0, 0}, {1, Integer.MAX_VALUE, 2, 0, 0},
        };
        for (int[] w : wrong) {
            Due.due("a wrong house", x.house(w[0], w[1], w[2], w[3], w[4]), -1);
        }
        Due.due("about(0)", x.about(0), 0);
    }

    private static void ofHouses() {
        ShutDays x = new ShutDays();
        x.house(0, 1, 2, 10, 49);
        x.house(3, -1, -1, 20, 50);
        x.house(4, -1, -1, 30, 7);
        int[][] want = {
            {7, 10, 49, 0, 1, 2, 2, 1, 1},
            {8, 20, 50, 0, 0, 2, 2, 0, 1},
            {16, 30, 7, 0, 0, 2, 2, 1, 1},
        };
        for (int h = 0; h < 3; h++) {
            for (int what = 0; what <= 8; what++) {
                Due.due("of(" + h + ", " + what + ")", x.of(h, what), want[h][what]);
            }
        }
        Due.due("is(3)", x.is(3), 2);
        Due.due("of(0, 9)", x.of(0, 9), -1);
        Due.due("of(0, -1)", x.of(0, -1), -1);
        Due.due("of(3, 0)", x.of(3, 0), -1);
        Due.due("of(-1, 0)", x.of(-1, 0), -1);
        x.day(3);
        Due.due("is(1)", x.is(1), 3);
        Due.due("of(1, 4) on its date", x.of(1, 4), 1);
        Due.due("of(0, 4)", x.of(0, 4), 0);
        Due.due("of(0, 8) beside a shut one", x.of(0, 8), 0);
        Due.due("of(1, 8) between two", x.of(1, 8), 2);
        Due.due("marry(1, 2)", x.marry(1, 2), 24);
        Due.due("of(1, 3)", x.of(1, 3), 1);
        Due.due("of(0, 8) beside one that's gone", x.of(0, 8), 0);
        Due.due("of(1, 0) of one that's gone", x.of(1, 0), 8);
        Due.due("is(3) without it", x.is(3), 1);
    }
}

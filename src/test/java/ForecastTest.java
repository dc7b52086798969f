/** Promises 19 to 25: foretold, indoors, crowded, feast, alone, nobodys, poorest. */
public final class ForecastTest {
    public static void main(String[] args) {
        foretold();
        indoors();
        dates();
        dateOne();
        poorest();
        Due.finish();
    }

    private static void foretold() {
        ShutDays x = new ShutDays();
        Due.due("without", x.foretold(1, 0), -1);
        x.house(0, 2, -1, 1, 0);
        x.house(1, -1, -1, 9990, 0);
        Due.due("foretold(0, 0)", x.foretold(0, 0), -1);
        Due.due("foretold(61, 0)", x.foretold(61, 0), -1);
        Due.due("foretold(1, 2)", x.foretold(1, 2), -1);
        Due.due("foretold(1, -1)", x.foretold(1, -1), -1);
        Due.due("0 at least", x.foretold(1, 0), 0);
        Due.due("open, beside a shut one", x.foretold(2, 0), 1);
        Due.due("shut", x.foretold(3, 0), 0);
        Due.due("purse", x.foretold(2, 1), 9989);
        Due.due("9999 at most", x.foretold(60, 1), 9999);
        Due.due("nothing changed", x.is(0), 0);
        Due.due("nothing changed", x.of(1, 1), 9990);
        Due.due("no step", x.about(3), 0);
        int[] want = new int[61];
        for (int n = 1; n <= 60; n++) {
            want[n] = x.foretold(n, 0);
        }
        for (int n = 1; n <= 60; n++) {
            x.day(1);
            Due.due("as foretold " + n, x.of(0, 1), want[n]);
        }
        x.marry(0, 1);
        Due.due("one that's gone", x.foretold(9, 0), x.of(0, 1));
        Due.told(x, "earns 50;");
        x.by(0);
        x.house(-1, -1, -1, 3, 3);
        Due.due("by the text", x.foretold(2, 2), 103);
    }

    private static void indoors() {
        ShutDays x = new ShutDays();
        Due.due("without", x.indoors(1), -1);
        x.house(0, 5, -1, 0, 0);
        x.house(5, 9, -1, 0, 0);
        x.house(5, 9, 0, 0, 0);
        Due.due("indoors(0)", x.indoors(0), -1);
        Due.due("indoors(8)", x.indoors(8), -1);
        Due.due("indoors(-1)", x.indoors(-1), -1);
        Due.due("now", x.indoors(1), 0);
        Due.due("now", x.indoors(2), 0);
        Due.due("on 5", x.indoors(3), 5);
        Due.due("never", x.indoors(4), -1);
        Due.due("never", x.indoors(7), -1);
        x.day(6);
        Due.due("on 9", x.indoors(1), 3);
        Due.due("on 5 of the next year", x.indoors(3), 19);
        x.marry(0, 1);
        Due.due("without the one that's gone", x.indoors(3), -1);
        Due.due("the other two", x.indoors(2), 19);
    }

    private static void dates() {
        ShutDays x = new ShutDays();
        Due.due("crowded(false)", x.crowded(false), 0);
        Due.due("crowded(true)", x.crowded(true), 0);
        Due.due("feast(false)", x.feast(false), 0);
        Due.due("feast(true)", x.feast(true), 0);
        Due.due("alone()", x.alone(), 0);
        Due.due("nobodys()", x.nobodys(), 1048575);
        x.house(0, 5, 9, 0, 10);
        x.house(9, 5, 0, 0, 20);
        x.house(1, -1, -1, 0, 30);
        x.house(-1, -1, -1, 0, 0);
        Due.due("the lowest of the most", x.crowded(false), 0);
        Due.due("how many", x.crowded(true), 2);
        Due.due("the lowest of the most", x.feast(false), 2);
        Due.due("how many", x.feast(true), 60);
        Due.due("no date shared", x.alone(), 12);
        Due.due("nobody's", x.nobodys(), 1048575 & ~(1 | 2 | 32 | 512));
        x.forget(0, 0);
        Due.due("on 5", x.crowded(false), 5);
        x.marry(2, 3);
        Due.due("those of one that's gone aren't counted", x.crowded(true), 2);
        Due.due("alone", x.alone(), 8);
        x.marry(3, 0);
        Due.due("the one that's left has them", x.of(0, 0), 2 | 32 | 512);
        Due.due("crowded", x.crowded(false), 5);
        x.marry(0, 1);
        Due.due("1 is nobody's", x.nobodys(), 1048575 & ~(32 | 512));
        Due.due("feast", x.feast(false), 0);
        Due.due("friends", x.feast(true), 60);
        Due.due("alone", x.alone(), 2);
        Due.due("crowded", x.crowded(true), 1);
    }

    private static void dateOne() {
        ShutDays x = new ShutDays();
        x.house(1, -1, -1, 0, 10);
        Due.due("crowded", x.crowded(false), 1);
        Due.due("alone", x.alone(), 1);
        x.house(0, 2, 3, 0, 10);
        x.house(4, 2, 3, 0, 10);
        x.house(4, 5, 6, 0, 10);
        Due.due("crowded", x.crowded(false), 2);
        Due.due("alone", x.alone(), 1);
        ShutDays y = new ShutDays();
        y.house(0, -1, -1, 0, 10);
        Due.due("feast", y.feast(false), 1);
        y.house(19, 1, 2, 0, 20);
        y.house(3, 4, 5, 0, 20);
        Due.due("feast", y.feast(false), 6);
    }

    private static void poorest() {
        ShutDays x = new ShutDays();
        Due.due("without", x.poorest(1), -1);
        x.house(1, -1, -1, 10, 0);
        x.house(0, -1, -1, 10, 0);
        x.house(2, -1, -1, 9, 0);
        Due.due("poorest(0)", x.poorest(0), -1);
        Due.due("poorest(61)", x.poorest(61), -1);
        // Day 0: 11, 8, 10; day 1: 9, 10, 12; day 2: 11, 12, 10.
        Due.due("poorest(1)", x.poorest(1), 1);
        Due.due("poorest(2)", x.poorest(2), 0);
        Due.due("poorest(3)", x.poorest(3), 2);
        x.marry(1, 0);
        Due.due("one that's gone isn't", x.poorest(1), 2);
        ShutDays y = new ShutDays();
        y.house(1, -1, -1, 10, 0);
        y.house(1, -1, -1, 10, 0);
        Due.due("of like ones the lowest", y.poorest(60), 0);
    }
}

/** Promises 3 to 7: feed, end, text, fault, by; the language of part II. */
public final class LanguageTest {
    public static void main(String[] args) {
        tape();
        texts();
        misplaced();
        outOfRange();
        tooDeep();
        otherFaults();
        values();
        asks();
        names();
        ruling();
        Due.finish();
    }

    private static void tape() {
        ShutDays x = new ShutDays();
        for (int i = 1; i <= 15; i++) {
            Due.due("feed " + i, x.feed(0x20202020, 0, -1, 0, 0), 20 * i);
        }
        Due.due("feed beyond 300", x.feed(0, 0, 0, 0, 0), -1);
        Due.due("about(6)", x.about(6), 300);
        Due.due("end(301)", x.end(301), -1);
        Due.due("end(-1)", x.end(-1), -1);
        Due.due("about(6) as it was", x.about(6), 300);
        Due.due("end(281)", x.end(281), 281);
        Due.due("feed that doesn't fit", x.feed(0, 0, 0, 0, 0), -1);
        Due.due("about(6) as it was", x.about(6), 281);
        Due.due("end(280)", x.end(280), 280);
        Due.due("feed that fits", x.feed(0, 0, 0, 0, 0), 300);
        Due.due("end(4)", x.end(4), 4);
        Due.due("end(5)", x.end(5), -1);
        Due.due("text of blanks", x.text(), 0);
        Due.due("about(6) empty", x.about(6), 0);
    }

    private static void texts() {
        ShutDays x = new ShutDays();
        Due.due("fault(0) ahead of any", x.fault(0), -1);
        Due.due("fault(1) ahead of any", x.fault(1), -1);
        Due.due("the empty text", x.text(), 0);
        Due.due("fault(0) without", x.fault(0), 0);
        Due.due("fault(1) without", x.fault(1), -1);
        Due.due("fault(2)", x.fault(2), -1);
        Due.due("fault(-1)", x.fault(-1), -1);
        Due.due("a faulty one", Due.told(x, "day 1"), -1);
        Due.due("its tape is empty", x.about(6), 0);
        Due.due("fault(0)", x.fault(0), 1);
        Due.due("fault(1)", x.fault(1), 5);
        Due.due("second", Due.told(x, "day\n1\n;\n"), 1);
        Due.due("third", Due.told(x, "earns 1;loses 2;lets 1<2;"), 2);
        Due.due("fourth", Due.told(x, "day 60;"), 3);
        Due.due("fifth", Due.told(x, "day ;"), -1);
        Due.due("the tape stays", x.about(6), 5);
        Due.due("it wasn't read", x.fault(0), 0);
        Due.due("about(1)", x.about(1), 4);
        x.back();
        Due.due("about(1) back", x.about(1), 0);
        Due.due("the tape isn't of the image", x.about(6), 5);
        Due.due("now it is read", x.text(), -1);
        Due.due("fault(1) now", x.fault(1), 4);
    }

    private static void misplaced() {
        Due.faulty("", 0, -1);
        Due.faulty(";", 1, 0);
        Due.faulty("  \n x;", 1, 4);
        Due.faulty("Earns 1;", 1, 0);
        Due.faulty("earn 1;", 1, 0);
        Due.faulty("earnss 1;", 1, 0);
        Due.faulty("friendsfriends 1;", 1, 0);
        Due.faulty("earnsa 1;", 1, 0);
        Due.faulty("earnsz 1;", 1, 0);
        Due.faulty("earnsA 1;", 1, 0);
        Due.faulty("earnsZ 1;", 1, 0);
        Due.faulty("earns[ 1;", 1, 5);
        Due.faulty("earns` 1;", 1, 5);
        Due.faulty("earns1;", 0, -1);
        Due.faulty("earns1loses2;", 1, 6);
        Due.faulty("earns 1/2:", 1, 9);
        Due.faulty(";".repeat(300), 1, 0);
        Due.faulty("earns " + "1+".repeat(146) + "1;", 0, -1);
        Due.faulty("earns " + "1+".repeat(147), 1, 300);
        Due.faulty("purse 1;", 1, 0);
        Due.faulty("beside;", 1, 0);
        Due.faulty("7;", 1, 0);
        Due.faulty("10000;", 1, 0);
        Due.faulty("earns", 1, 5);
        Due.faulty("earns ;", 1, 6);
        Due.faulty("earns 1", 1, 7);
        Due.faulty("earns 1  ", 1, 9);
        Due.faulty("earns 1 2;", 1, 8);
        Due.faulty("earns 1 10000;", 1, 8);
        Due.faulty("earns 1 < 2;", 1, 8);
        Due.faulty("earns not 1;", 1, 6);
        Due.faulty("earns 1 + ;", 1, 10);
        Due.faulty("earns + 1;", 1, 6);
        Due.faulty("earns (1;", 1, 8);
        Due.faulty("earns 1);", 1, 7);
        Due.faulty("earns to;", 1, 6);
        Due.faulty("earns foo;", 1, 6);
        Due.faulty("earns 1 ? ;", 1, 8);
        Due.faulty("earns 1\t;", 1, 7);
        Due.faulty("earns 1;" + (char) 233, 1, 8);
        Due.faulty("earns 1;" + (char) 0, 1, 8);
        Due.faulty("earns 1day;", 1, 7);
        Due.faulty("earns digit 1 to 2;", 1, 14);
        Due.faulty("lets 1;", 1, 6);
        Due.faulty("lets (1 < 2);", 1, 8);
        Due.faulty("lets 1 < 2 < 3;", 1, 11);
        Due.faulty("lets 1 =< 2;", 1, 8);
        Due.faulty("lets 1 < = 2;", 1, 9);
        Due.faulty("lets 1 < 2 or;", 1, 13);
        Due.faulty("lets 1 < 2 and not;", 1, 18);
        Due.faulty("lets 1 < 2 and;", 1, 14);
        Due.faulty("lets or 1 < 2;", 1, 5);
        Due.faulty("lets - not 1 < 2;", 1, 7);
        Due.faulty("house 1 purse 2;", 1, 15);
        Due.faulty("house 1 friends 2 purse 3;", 1, 8);
        Due.faulty("house day purse 2 friends 3;", 1, 6);
        Due.faulty("house -1 purse 2 friends 3;", 1, 6);
        Due.faulty("knock beside;", 1, 6);
        Due.faulty("marry 1 2;", 1, 8);
        Due.faulty("marry 1 of 2;", 1, 8);
        Due.faulty("forget 1 to 2;", 1, 9);
        Due.faulty("hat 1 1;", 1, 6);
        Due.faulty("day 1 day 2;", 1, 6);
        Due.faulty("lets beside beside;", 5, 5);
    }

    private static void outOfRange() {
        Due.faulty("earns 9999;", 0, -1);
        Due.faulty("earns 0000000000000009999;", 0, -1);
        Due.faulty("earns 10000;", 2, 6);
        Due.faulty("earns 99999999999999999999999999;", 2, 6);
        Due.faulty("lets 1 < 10000;", 2, 9);
        Due.faulty("house 19 purse 9999 friends 99; house 0 purse 0 friends 0;", 0, -1);
        Due.faulty("house 20 purse 9999 friends 99;", 2, 6);
        Due.faulty("house 19 purse 10000 friends 99;", 2, 15);
        Due.faulty("house 19 purse 9999 friends 100;", 2, 28);
        Due.faulty("house 19 purse 9999 friends 100", 2, 28);
        Due.faulty("knock 6;", 0, -1);
        Due.faulty("knock 7;", 2, 6);
        Due.faulty("marry 7 to 1;", 2, 6);
        Due.faulty("marry 6 to 6;", 0, -1);
        Due.faulty("marry 6 to 7;", 2, 11);
        Due.faulty("hat 7;", 2, 4);
        Due.faulty("forget 19 of 6;", 0, -1);
        Due.faulty("forget 20 of 6;", 2, 7);
        Due.faulty("forget 19 of 7;", 2, 13);
        Due.faulty("day 0;", 2, 4);
        Due.faulty("day 61;", 2, 4);
        Due.faulty("day 1; day 60;", 0, -1);
    }

    private static void tooDeep() {
        Due.faulty("earns ((((((((1))))))));", 0, -1);
        Due.faulty("earns (((((((((1)))))))));", 3, 14);
        Due.faulty("earns --------1;", 0, -1);
        Due.faulty("earns ---------1;", 3, 14);
        Due.faulty("earns 1---------1;", 0, -1);
        Due.faulty("earns 1----------1;", 3, 16);
        Due.faulty("lets not not not not not not not not 1<2;", 0, -1);
        Due.faulty("lets not not not not not not not not not 1<2;", 3, 37);
        Due.faulty("lets not not not not ((((1))))<((((2))));", 0, -1);
        Due.faulty("lets not not not not ((((1))))<(((((2)))));", 3, 35);
        Due.faulty("lets not not not not not not not not 1<2 and not not 1<2;", 0, -1);
        Due.faulty("earns ((((1))))+((((1))))*((((((((1))))))));", 0, -1);
        Due.faulty("earns digit((((((1)))))) of-(((((1)))))*(((((((1)))))));", 0, -1);
        Due.faulty("earns digit (((((((1))))))) of ((((((((2))))))));", 3, 38);
        Due.faulty("earns (((((((digit 1 of -2)))))));", 3, 24);
        Due.faulty("earns (((((((digit 1 of 2 - 2)))))));", 0, -1);
        Due.faulty("earns (((((((digit 1 of 2 * (2))))))));", 0, -1);
        Due.faulty("earns ((((((((digit 1 of 2))))))));", 3, 14);
    }

    private static void otherFaults() {
        Due.faulty("earns 1; earns 1;", 4, 9);
        Due.faulty("loses 1; earns 1; loses", 4, 18);
        Due.faulty("lets 1<1;day 1;lets", 4, 15);
        Due.faulty("lets beside = 1;", 5, 5);
        Due.faulty("lets 1 = (beside);", 5, 10);
        Due.faulty("earns beside; loses beside; lets not 2 < beside;", 5, 41);
        Due.faulty("lets 1 < 2 beside;", 1, 11);
        String many = "hat 0;".repeat(24);
        Due.faulty(many, 0, -1);
        Due.faulty(many + " ", 0, -1);
        Due.faulty(many + "hat 9;", 6, 144);
        Due.faulty(many + "earns 1;", 6, 144);
        Due.faulty(many + ";", 1, 144);
        Due.faulty(many + "purse", 1, 144);
        Due.faulty("earns 1;" + "hat 0;".repeat(23) + "earns 1;", 4, 146);
        Due.faulty("earns 1;" + "hat 0;".repeat(23) + "loses 1;", 6, 146);
    }

    /** What house 0 earns (a value of 0 .. 99 is told as it is). */
    private static void earns(String sum, int want) {
        ShutDays x = town();
        Due.due("text of " + sum, Due.told(x, "earns " + sum + ";"), 0);
        x.by(0);
        Due.due(sum, x.of(0, 5), want);
        Due.told(x, "loses " + sum + ";");
        x.by(1);
        Due.due(sum + " lost", x.of(0, 6), want);
    }

    private static ShutDays town() {
        ShutDays x = new ShutDays();
        x.house(1, 2, -1, 1234, 56);
        x.house(3, -1, -1, 20, 60);
        x.house(0, -1, -1, 30, 2);
        return x;
    }

    private static void values() {
        earns("1+2*3", 7);
        earns("(1+2)*3", 9);
        earns("10-3-4", 3);
        earns("7/2", 3);
        earns("5-7/-2", 8);
        earns("5+-7/2", 2);
        earns("24/4/3", 2);
        earns("24/4*3", 18);
        earns("7/0+5", 5);
        earns("-5", 0);
        earns("--5", 5);
        earns("-2*-3", 6);
        earns("100", 99);
        earns("99", 99);
        earns("9999*9999/(1000*1000)", 1);
        earns("9999*9999*9999/(1000*1000)", 1);
        earns("9999*9999-(1000*1000-1)", 1);
        earns("9999*-9999+9999*100+110", 10);
        earns("9999*9999*9999*9999/9999", 99);
        earns("-9999*9999/-(1000*100)", 10);
        earns("digit 0 of 1234", 4);
        earns("digit 3 of 1234", 1);
        earns("digit 4 of 1234", 0);
        earns("digit 1 of -56", 5);
        earns("digit -1 of 56", 0);
        earns("digit 6 of (9999*9999)", 1);
        earns("digit 9 of (9999*9999)", 0);
        earns("digit 10 of 5", 0);
        earns("digit 5 of (9999*99)", 9);
        earns("digit 1 of 23 * 10", 20);
        earns("digit 1 of 23 + 10", 12);
        earns("digit digit 0 of 1 of digit 0 of 5", 0);
        earns("digit digit 0 of 11 of 42", 4);
        earns("- digit 0 of 5 + 9", 4);
    }

    private static void lets(String either, boolean want) {
        ShutDays x = town();
        Due.due("text of " + either, Due.told(x, "lets " + either + ";"), 0);
        x.by(0);
        Due.due(either, x.of(0, 7), want ? 1 : 0);
    }

    private static void asks() {
        lets("1 < 2", true);
        lets("2 < 2", false);
        lets("2 <= 2", true);
        lets("3 <= 2", false);
        lets("3 > 2", true);
        lets("2 > 2", false);
        lets("2 >= 2", true);
        lets("2 >= 3", false);
        lets("2 = 2", true);
        lets("2 = 3", false);
        lets("2 # 3", true);
        lets("2 # 2", false);
        lets("2<=2", true);
        lets("3 divides 9", true);
        lets("3 divides 8", false);
        lets("9 divides 3", false);
        lets("3 divides 0", true);
        lets("0 divides 0", true);
        lets("0 divides 3", false);
        lets("-3 divides 9", true);
        lets("3 divides -9", true);
        lets("2 divides -9", false);
        lets("1 + 1 divides 2 * 5", true);
        lets("not 1 < 2", false);
        lets("not not 1 < 2", true);
        lets("not 1 < 2 or 1 < 2", true);
        lets("not 2 < 1 and 2 < 1", false);
        lets("1 < 2 or 1 < 2 and 2 < 1", true);
        lets("2 < 1 and 2 < 1 or 1 < 2", true);
        lets("2 < 1 and 1 < 2 or 2 < 1 and 1 < 2", false);
        lets("2 < 1 or 2 < 1 or 1 < 2", true);
        lets("1 < 2 and 1 < 2 and 2 < 1", false);
        lets("- 1 < 0", true);
    }

    private static void names() {
        earns("house + 40", 40);
        earns("friends", 56);
        earns("purse / 100", 12);
        earns("days", 2);
        earns("open", 2);
        earns("beside", 1);
        earns("date", 0);
        earns("day", 0);
        lets("open = 2 and days = 2 and house = 0 and friends = 56", true);
        ShutDays x = town();
        x.day(23);
        Due.told(x, "earns day; loses date; lets purse = 1234;");
        x.by(0);
        Due.due("day", x.of(1, 5), 23);
        Due.due("date", x.of(1, 6), 3);
        Due.told(x, "earns house * 10 + beside; loses open * 10 + days;");
        x.by(1);
        Due.due("house, beside", x.of(2, 5), 20);
        Due.due("open, days", x.of(2, 6), 21);
        Due.due("house 1", x.of(1, 5), 12);
    }

    private static void ruling() {
        ShutDays x = town();
        Due.due("by(0) without", x.by(0), false);
        Due.told(x, "earns 5;");
        Due.told(x, "loses 6; lets 1 = 2;");
        Due.due("it doesn't rule yet", x.about(2), -1);
        Due.due("of(0, 5)", x.of(0, 5), 2);
        Due.due("by(0)", x.by(0), true);
        Due.due("of(0, 5)", x.of(0, 5), 5);
        Due.due("of(0, 6) without", x.of(0, 6), 2);
        Due.due("of(2, 7) without", x.of(2, 7), 1);
        Due.due("by(2)", x.by(2), false);
        Due.due("by(-2)", x.by(-2), false);
        Due.due("about(2)", x.about(2), 0);
        Due.due("by(1)", x.by(1), true);
        Due.due("of(0, 5) without", x.of(0, 5), 2);
        Due.due("of(0, 6)", x.of(0, 6), 6);
        Due.due("of(2, 7)", x.of(2, 7), 0);
        Due.due("by(NONE)", x.by(-1), true);
        Due.due("about(2)", x.about(2), -1);
        Due.due("of(2, 7)", x.of(2, 7), 1);
    }
}

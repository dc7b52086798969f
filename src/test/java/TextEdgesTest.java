/** Edges of promises 3 to 7 and of part II: the tape, tokens, numbers, depth, faults, values, limits of laws. */
public final class TextEdgesTest {
    public static void main(String[] args) {
        feedEdges();
        endEdges();
        bytesInOrder();
        fourTexts();
        textsBehindAnImage();
        faultEdges();
        byEdges();
        blanks();
        beyondLettersAndDigits();
        signs();
        words();
        numbers();
        wholeTape();
        openAround();
        lawsOnce();
        clauseCount();
        leastOfOneToken();
        theFirstFault();
        theEnd();
        capsAtEachStep();
        division();
        digits();
        divides();
        notBinds();
        limitsOfLaws();
        usualLaws();
        namesInLaws();
        Due.finish();
    }

    private static void feedEdges() {
        ShutDays x = new ShutDays();
        for (int have : new int[] {0, 1, 279, 280}) {
            fill(x, have);
            Due.due("feed behind " + have, x.feed(1, 2, 3, 4, 5), have + 20);
        }
        for (int have : new int[] {281, 299, 300}) {
            fill(x, have);
            Due.due("feed behind " + have, x.feed(1, 2, 3, 4, 5), -1);
            Due.due("none came", x.about(6), have);
        }
    }

    private static void fill(ShutDays x, int length) {
        x.end(0);
        for (int i = 0; i < 15; i++) {
            x.feed(0, 0, 0, 0, 0);
        }
        x.end(length);
    }

    private static void endEdges() {
        ShutDays x = new ShutDays();
        x.feed(0, 0, 0, 0, 0);
        for (int n : new int[] {Integer.MIN_VALUE, -1, 21, 300, Integer.MAX_VALUE}) {
            Due.due("end(" + n + ")", x.end(n), -1);
            Due.due("nothing is done", x.about(6), 20);
        }
        Due.due("all of it", x.end(20), 20);
        Due.due("end(19)", x.end(19), 19);
        Due.due("what was cut off isn't there", x.end(20), -1);
        Due.due("end(0)", x.end(0), 0);
        Due.due("end(1)", x.end(1), -1);
    }

    /** What comes next stands right behind what was left; a refused feed leaves all as it was. */
    private static void bytesInOrder() {
        ShutDays x = new ShutDays();
        x.house(-1, -1, -1, 0, 0);
        String text = "earns 1*2+3*4+5 ;   ";
        x.feed(Due.four(text, 0), Due.four(text, 4), Due.four(text, 8), Due.four(text, 12), Due.four(text, 16));
        x.text();
        x.by(0);
        Due.due("the highest byte of a first", x.of(0, 5), 19);
        Due.write(x, "earns 1234567890123456");
        x.end(7);
        x.feed(Due.four("2;  ", 0), 0x20202020, 0x20202020, 0x20202020, 0x20202020);
        Due.due("behind seven", x.about(6), 27);
        x.text();
        x.by(1);
        Due.due("12", x.of(0, 5), 12);
        Due.write(x, "earns 33;" + " ".repeat(291));
        Due.due("refused", x.feed(-1, -1, -1, -1, -1), -1);
        Due.due("refused", x.end(301), -1);
        Due.due("as it was", x.text(), 2);
        x.by(2);
        Due.due("33", x.of(0, 5), 33);
        x.feed(0x80ffffff, 0, 0, 0, 0);
        Due.due("a byte above 127", x.text(), -1);
        Due.due("none", x.fault(0), 1);
        Due.due("at the first", x.fault(1), 0);
    }

    private static void fourTexts() {
        ShutDays x = new ShutDays();
        Due.due("of no bytes", x.text(), 0);
        Due.due("faulty", Due.told(x, "?"), -1);
        Due.due("a faulty one takes no number", Due.told(x, " "), 1);
        Due.due("third", Due.told(x, "\n"), 2);
        Due.due("fourth", Due.told(x, "day 1;"), 3);
        Due.due("texts", x.about(1), 4);
        Due.write(x, "day 0;");
        Due.due("there are 4", x.text(), -1);
        Due.due("the tape stays", x.about(6), 6);
        Due.due("it wasn't read: no fault", x.fault(0), 0);
        Due.due("no place", x.fault(1), -1);
        x.end(0);
        Due.due("an empty one neither", x.text(), -1);
        Due.due("played(3)", x.played(3), -1);
        Due.due("played(4)", x.played(4), -2);
        Due.due("one day", x.is(0), 1);
    }

    private static void textsBehindAnImage() {
        ShutDays x = new ShutDays();
        x.house(-1, -1, -1, 0, 0);
        Due.told(x, "earns 11;");
        x.by(0);
        x.image();
        Due.due("second", Due.told(x, "earns 22;"), 1);
        x.by(1);
        x.back();
        Due.due("one text", x.about(1), 1);
        Due.due("it rules again", x.of(0, 5), 11);
        Due.due("by(1)", x.by(1), false);
        Due.due("another second", Due.told(x, "earns 33;"), 1);
        x.by(1);
        Due.due("it rules", x.of(0, 5), 33);
        Due.told(x, "earns 44;");
        Due.told(x, "earns 55;");
        x.image();
        Due.due("full", Due.told(x, "earns 66;"), -1);
        x.by(3);
        x.back();
        Due.due("the text of the image", x.about(2), 1);
        Due.due("all four are there", x.about(1), 4);
        x.by(3);
        Due.due("the fourth", x.of(0, 5), 55);
    }

    private static void faultEdges() {
        ShutDays x = new ShutDays();
        for (int what = -2; what <= 2; what++) {
            Due.due("ahead of any: fault(" + what + ")", x.fault(what), -1);
        }
        Due.told(x, "day 61;");
        Due.due("its fault", x.fault(0), 2);
        Due.due("its place", x.fault(1), 4);
        for (int what : new int[] {Integer.MIN_VALUE, -1, 2, 3, Integer.MAX_VALUE}) {
            Due.due("fault(" + what + ")", x.fault(what), -1);
        }
        x.back();
        Due.due("the latest fault isn't of an image", x.fault(0), 2);
        x.house(1, -1, -1, 0, 0);
        x.feed(0, 0, 0, 0, 0);
        Due.due("of the latest that was read", x.fault(0), 2);
        Due.told(x, "day 60;");
        Due.due("none now", x.fault(0), 0);
        Due.due("no place now", x.fault(1), -1);
    }

    private static void byEdges() {
        ShutDays x = new ShutDays();
        Due.told(x, "");
        for (int text : new int[] {Integer.MIN_VALUE, -2, 1, 3, 4, Integer.MAX_VALUE}) {
            Due.due("by(" + text + ")", x.by(text), false);
            Due.due("none as before", x.about(2), -1);
        }
        Due.due("by(0)", x.by(0), true);
        Due.due("by(0) again", x.by(0), true);
        Due.due("by(1)", x.by(1), false);
        Due.due("0 as before", x.about(2), 0);
        Due.due("no step", x.about(3), 0);
        Due.due("none", x.by(-1), true);
        Due.due("none", x.about(2), -1);
    }

    private static void blanks() {
        Due.faulty("\n \n", 0, -1);
        Due.faulty("earns\n1\n+\n2\n;\n", 0, -1);
        for (int sign : new int[] {0, 9, 11, 12, 13, 31, 33, 127, 128, 160, 255}) {
            Due.faulty("earns 1" + (char) sign + ";", 1, 7);
            Due.faulty((char) sign + "earns 1;", 1, 0);
        }
        Due.faulty("earns 1 1;", 1, 8);
        Due.faulty("earns 1\n1;", 1, 8);
        Due.faulty("ear ns 1;", 1, 0);
        Due.faulty("lets 1 < = 1;", 1, 9);
        Due.faulty("lets 1 <\n= 1;", 1, 9);
    }

    /** Signs right below and above a, z, A, Z, 0, 9 are neither; those at the ends are. */
    private static void beyondLettersAndDigits() {
        for (char sign : new char[] {'@', '[', '`', '{', ':', '.', '&', '!', '"', '$', '%', '\'', ',', '?', '_', '~'}) {
            Due.faulty("day 1" + sign + ";", 1, 5);
            Due.faulty("day" + sign + "1;", 1, 3);
        }
        for (char sign : new char[] {'a', 'z', 'A', 'Z'}) {
            Due.faulty("day" + sign + " 1;", 1, 0);
            Due.faulty(sign + "day 1;", 1, 0);
            Due.faulty("day 1" + sign + ";", 1, 5);
        }
        for (char sign : new char[] {'0', '9'}) {
            Due.faulty("day 1" + sign + ";", 0, -1);
            Due.faulty("day" + sign + ";", sign == '0' ? 2 : 0, sign == '0' ? 3 : -1);
        }
    }

    /** The longest sign stands: <= and >= are one token each. */
    private static void signs() {
        Due.faulty("lets 1<=1;", 0, -1);
        Due.faulty("lets 1>=1;", 0, -1);
        Due.faulty("lets 1<=-1;", 0, -1);
        Due.faulty("lets 1<==1;", 1, 8);
        Due.faulty("lets 1<<=1;", 1, 7);
        Due.faulty("lets 1<>1;", 1, 7);
        Due.faulty("lets 1==1;", 1, 7);
        Due.faulty("lets 1=<1;", 1, 7);
        Due.faulty("lets 1##1;", 1, 7);
        Due.faulty("lets 1<", 1, 7);
        Due.faulty("lets 1<=", 1, 8);
        Due.faulty("earns 1++1;", 1, 8);
        Due.faulty("earns 1**1;", 1, 8);
        Due.faulty("earns 1//1;", 1, 8);
        Due.faulty("earns 1--1;", 0, -1);
        Due.faulty("earns 1*-1;", 0, -1);
        Due.faulty("earns 1-*1;", 1, 8);
        Due.faulty("earns ();", 1, 7);
        Due.faulty("earns (1)(1);", 1, 9);
        Due.faulty("earns (1;)", 1, 8);
        Due.faulty("earns 1;;", 1, 8);
        Due.faulty("earns 1,2;", 1, 7);
        Due.faulty("earns 1.2;", 1, 7);
    }

    private static void words() {
        Due.faulty("earns DAY;", 1, 6);
        Due.faulty("earns dAy;", 1, 6);
        Due.faulty("earns daY;", 1, 6);
        Due.faulty("earns da;", 1, 6);
        Due.faulty("earns d;", 1, 6);
        Due.faulty("earns dayday;", 1, 6);
        Due.faulty("earns besides;", 1, 6);
        Due.faulty("earns friend;", 1, 6);
        Due.faulty("earns dates;", 1, 6);
        Due.faulty("earns day1;", 1, 9);
        Due.faulty("earns 1 divide 2;", 1, 8);
        Due.faulty("lets 1 dividess 2;", 1, 7);
        Due.faulty("lets not1=1;", 0, -1);
        Due.faulty("lets notday=1;", 1, 5);
        Due.faulty("lets 1divides1and2divides2or3divides3;", 0, -1);
        Due.faulty("earns digit1of2;", 0, -1);
        Due.faulty("earns digit1ofday;", 1, 12);
        Due.faulty("house1purse2friends3;", 0, -1);
        Due.faulty("marry1to2;", 0, -1);
        Due.faulty("forget1of2;", 0, -1);
        Due.faulty("day1;day2;", 0, -1);
        Due.faulty("days 1;", 1, 0);
        Due.faulty("date 1;", 1, 0);
        Due.faulty("open 1;", 1, 0);
        Due.faulty("friends 1;", 1, 0);
        Due.faulty("not 1;", 1, 0);
        Due.faulty("digit 1 of 2;", 1, 0);
        Due.faulty("earns to;", 1, 6);
        Due.faulty("earns of;", 1, 6);
        Due.faulty("earns earns;", 1, 6);
        Due.faulty("earns or;", 1, 6);
        Due.faulty("earns knock;", 1, 6);
        Due.faulty("lets 1 = 1 not 1 = 1;", 1, 11);
        Due.faulty("lets 1 not = 1;", 1, 7);
        Due.faulty("lets 1 = not 1;", 1, 9);
        Due.faulty("lets (not 1 = 1);", 1, 6);
        Due.faulty("lets digit not 1 of 1 = 1;", 1, 11);
        Due.faulty("lets 1 and 1 = 1;", 1, 7);
        Due.faulty("lets 1 = 1 and or 1 = 1;", 1, 15);
        Due.faulty("lets ;", 1, 5);
        Due.faulty("lets 1 = 1 divides 1;", 1, 11);
        Due.faulty("loses 1 = 1;", 1, 8);
        Due.faulty("loses 1 or 1;", 1, 8);
        Due.faulty("loses 1 divides 1;", 1, 8);
    }

    /** Each number of each clause at its least, its most, and one beyond. */
    private static void numbers() {
        Due.faulty("house 0 purse 0 friends 0;", 0, -1);
        Due.faulty("house 19 purse 9999 friends 99;", 0, -1);
        Due.faulty("house 20 purse 0 friends 0;", 2, 6);
        Due.faulty("house 0 purse 10000 friends 0;", 2, 14);
        Due.faulty("house 0 purse 0 friends 100;", 2, 24);
        Due.faulty("knock 0;knock 6;", 0, -1);
        Due.faulty("knock 0;knock 7;", 2, 14);
        Due.faulty("marry 0 to 6;marry 6 to 0;", 0, -1);
        Due.faulty("marry 7 to 0;", 2, 6);
        Due.faulty("marry 0 to 7;", 2, 11);
        Due.faulty("hat 0;hat 6;", 0, -1);
        Due.faulty("hat 7;", 2, 4);
        Due.faulty("forget 0 of 0;forget 19 of 6;", 0, -1);
        Due.faulty("forget 20 of 0;", 2, 7);
        Due.faulty("forget 0 of 7;", 2, 12);
        Due.faulty("day 1;day 60;", 0, -1);
        Due.faulty("day 0;", 2, 4);
        Due.faulty("day 61;", 2, 4);
        Due.faulty("day 00000;", 2, 4);
        Due.faulty("day 00060;", 0, -1);
        Due.faulty("earns 0;loses 9999;", 0, -1);
        Due.faulty("earns 10000;", 2, 6);
        Due.faulty("earns 4294967296;", 2, 6);
        Due.faulty("earns 2147483648;", 2, 6);
        Due.faulty("knock 4294967296;", 2, 6);
        Due.faulty("knock 18446744073709551616;", 2, 6);
        Due.faulty("earns " + "9".repeat(293) + ";", 2, 6);
        Due.faulty("earns " + "0".repeat(292) + "1;", 0, -1);
        Due.faulty("earns digit 10000 of 1;", 2, 12);
        Due.faulty("earns digit 1 of 10000;", 2, 17);
        Due.faulty("earns (10000);", 2, 7);
        Due.faulty("earns -10000;", 2, 7);
        Due.faulty("lets 10000 divides 1;", 2, 5);
        Due.faulty("lets 1 divides 10000;", 2, 15);
        Due.faulty("day -1;", 1, 4);
        Due.faulty("day (1);", 1, 4);
        Due.faulty("day 1+1;", 1, 5);
        Due.faulty("house 1 purse -1 friends 1;", 1, 14);
    }

    private static void wholeTape() {
        Due.faulty("earns 1;" + " ".repeat(292), 0, -1);
        Due.faulty(" ".repeat(292) + "earns 1;", 0, -1);
        Due.faulty(" ".repeat(292) + "earns 1 ", 1, 300);
        Due.faulty(" ".repeat(299) + "x", 1, 299);
        Due.faulty("x".repeat(300), 1, 0);
        Due.faulty("7".repeat(300), 1, 0);
        Due.faulty(";".repeat(300), 1, 0);
        Due.faulty("lets 1" + " ".repeat(293) + "<", 1, 300);
        Due.faulty("lets 1" + " ".repeat(293) + ">", 1, 300);
        Due.faulty("lets 1" + " ".repeat(292) + "<=", 1, 300);
        Due.faulty("(".repeat(299), 1, 0);
        Due.faulty("day 1;" + ";".repeat(294), 1, 6);
        Due.faulty("day 1;".repeat(23) + "earns " + "1-".repeat(77) + "1;", 0, -1);
        Due.faulty("day 1;".repeat(23) + "earns " + "1-".repeat(77) + "1 ", 1, 300);
        Due.faulty("earns " + "1+".repeat(146) + "1;", 0, -1);
        Due.faulty("earns " + "(1)+".repeat(73) + "1;", 0, -1);
        Due.faulty("lets " + "1=1or ".repeat(48) + "1=1;", 0, -1);
    }

    /** Eight of ( not digit and - may stand open around one another; one that has ended counts no more. */
    private static void openAround() {
        Due.faulty("earns " + "(".repeat(8) + "1" + ")".repeat(8) + ";", 0, -1);
        Due.faulty("earns " + "(".repeat(9), 3, 14);
        Due.faulty("earns " + "-".repeat(8) + "1;", 0, -1);
        Due.faulty("earns " + "-".repeat(9), 3, 14);
        Due.faulty("earns " + "digit ".repeat(8) + "1" + " of 1".repeat(8) + ";", 0, -1);
        Due.faulty("earns " + "digit ".repeat(9), 3, 54);
        Due.faulty("lets " + "not ".repeat(8) + "1=1;", 0, -1);
        Due.faulty("lets " + "not ".repeat(9), 3, 37);
        Due.faulty("lets not not - - ( ( digit digit 1 of 1 of 1 ) ) = 1;", 0, -1);
        Due.faulty("lets not not - - ( ( digit digit 1 of 1 of (1) ) ) = 1;", 0, -1);
        Due.faulty("lets not not - - ( ( digit digit 1 of (1) of 1 ) ) = 1;", 3, 38);
        Due.faulty("lets not not - - ( ( digit 1 of digit 1 of (1) ) ) = 1;", 3, 43);
        Due.faulty("earns " + "(1)+".repeat(20) + "1;", 0, -1);
        Due.faulty("earns " + "-1-".repeat(20) + "1;", 0, -1);
        Due.faulty("earns " + "digit 1 of 1+".repeat(10) + "1;", 0, -1);
        Due.faulty("lets " + "not 1=1 and ".repeat(10) + "1=1;", 0, -1);
        Due.faulty("lets not 1 = ((((((( 1 )))))));", 0, -1);
        Due.faulty("lets not 1 = (((((((( 1 ))))))));", 3, 20);
        Due.faulty("lets not 1 = 1 or 1 = (((((((( 1 ))))))));", 0, -1);
        Due.faulty("earns -((((((( 1 )))))))*(((((((( 1 ))))))));", 0, -1);
        Due.faulty("earns 1-(((((((( 1 ))))))));", 0, -1);
        Due.faulty("earns --(((((( 1 ))))))-(((((((( 1 ))))))));", 0, -1);
        Due.faulty("earns digit ((((((( 1 ))))))) of ((((((( 1 )))))));", 0, -1);
        Due.faulty("earns digit (((((((( 1 )))))))) of 1;", 3, 19);
        Due.faulty("earns digit 1 of 1 + (((((((( 1 ))))))));", 0, -1);
    }

    private static void lawsOnce() {
        Due.faulty("earns 1;loses 1;lets 1=1;", 0, -1);
        Due.faulty("earns 1;earns 1;", 4, 8);
        Due.faulty("loses 1;loses 1;", 4, 8);
        Due.faulty("lets 1=1;lets 1=1;", 4, 9);
        Due.faulty("lets 1=1;loses 1;earns 1;lets ?", 4, 25);
        Due.faulty("earns 1;hat 0;hat 0;earns", 4, 20);
        Due.faulty("earns ;earns 1;", 1, 6);
    }

    private static void clauseCount() {
        String some = "hat 0;".repeat(21);
        Due.faulty(some + "earns 1;loses 1;lets 1=1;", 0, -1);
        Due.faulty(some + "earns 1;loses 1;lets 1=1;\n ", 0, -1);
        Due.faulty(some + "earns 1;loses 1;lets 1=1;day 1;", 6, 151);
        Due.faulty(some + "earns 1;loses 1;hat 0;lets", 6, 148);
        Due.faulty("hat 0;".repeat(24) + "  house", 6, 146);
        Due.faulty("hat 0;".repeat(24) + "  house 99", 6, 146);
        Due.faulty("hat 0;".repeat(23) + "hat 0", 1, 143);
        for (String first : new String[] {"earns", "loses", "lets", "house", "knock", "marry", "hat", "forget", "day"}) {
            Due.faulty("hat 0;".repeat(24) + first, 6, 144);
        }
        for (String first : new String[] {"purse", "7", "10000", "?", "(", "beside", "not", "x", ";"}) {
            Due.faulty("hat 0;".repeat(24) + first, 1, 144);
        }
    }

    private static void leastOfOneToken() {
        Due.faulty("earns 1;" + "hat 0;".repeat(23) + "earns 1;", 4, 146);
        Due.faulty("lets 1 beside;", 1, 7);
        Due.faulty("knock 1 10000;", 1, 8);
        Due.faulty("knock beside;", 1, 6);
        Due.faulty("earns " + "(".repeat(8) + "1(", 1, 15);
        Due.faulty("lets " + "not ".repeat(8) + "1 = not 1 = 1;", 1, 41);
        Due.faulty("earns " + "(".repeat(8) + "not 1", 1, 14);
        Due.faulty("house 1 10000 1;", 1, 8);
    }

    private static void theFirstFault() {
        Due.faulty("knock 7; knock ?", 2, 6);
        Due.faulty("lets beside = 10000;", 5, 5);
        Due.faulty("lets 10000 = beside;", 2, 5);
        Due.faulty("lets 1 = beside; lets 1 = 1;", 5, 9);
        Due.faulty("earns (((((((((10000;", 3, 14);
        Due.faulty("earns 10000 (((((((((", 2, 6);
        Due.faulty("day 1; ? day 0;", 1, 7);
    }

    private static void theEnd() {
        Due.faulty("earns", 1, 5);
        Due.faulty("earns \n ", 1, 8);
        Due.faulty("earns 1", 1, 7);
        Due.faulty("earns 1 ", 1, 8);
        Due.faulty("earns (", 1, 7);
        Due.faulty("earns -", 1, 7);
        Due.faulty("earns digit 1", 1, 13);
        Due.faulty("earns digit 1 of", 1, 16);
        Due.faulty("lets", 1, 4);
        Due.faulty("lets not", 1, 8);
        Due.faulty("lets 1", 1, 6);
        Due.faulty("lets 1 =", 1, 8);
        Due.faulty("lets 1 = 1 and", 1, 14);
        Due.faulty("house 1 purse 1 friends 1", 1, 25);
        Due.faulty("house 1 purse 1 friends", 1, 23);
        Due.faulty("marry 1 to", 1, 10);
        Due.faulty("forget 1 of 1", 1, 13);
        Due.faulty("day", 1, 3);
        Due.faulty("day 1;day 1;day", 1, 15);
    }

    /** What a house earns by the sum; so that it shows, the sum is of 0 .. 99. */
    private static void earns(String sum, int want) {
        ShutDays x = new ShutDays();
        x.house(-1, -1, -1, 9999, 99);
        Due.due("text of " + sum, Due.told(x, "earns " + sum + ";"), 0);
        x.by(0);
        Due.due(sum, x.of(0, 5), want);
    }

    private static void lets(String either, boolean want) {
        ShutDays x = new ShutDays();
        x.house(-1, -1, -1, 9999, 99);
        Due.due("text of " + either, Due.told(x, "lets " + either + ";"), 0);
        x.by(0);
        Due.due(either, x.of(0, 7), want ? 1 : 0);
    }

    private static void capsAtEachStep() {
        lets("1000*1000 = 1000*1000", true);
        lets("1000*1000 > 999*1001", true);
        lets("1000*1000 = 1000*1000 + 1", true);
        lets("1000*1000 + 1 - 1 = 1000*1000 - 1", true);
        lets("1000*1000 - 1 + 1 = 1000*1000", true);
        lets("1000*1000 - 1 < 1000*1000", true);
        lets("1001*1000 = 1000*1000", true);
        lets("9999*9999*9999*9999 = 1000*1000", true);
        lets("-1000*1000 - 1 = -1000*1000", true);
        lets("-1000*1000 - 1 + 1 = -1000*1000 + 1", true);
        lets("-9999*9999*9999 = -1000*1000", true);
        lets("-9999*9999*-9999 = 1000*1000", true);
        lets("9999*-9999 < -999*1001", true);
        lets("-(1000*1000) = 0 - 1000*1000", true);
        lets("--(9999*9999) = 1000*1000", true);
        earns("9999*9999/9999", 99);
        earns("9999*9999/9999-99", 1);
        earns("9999*9999-9999*100", 99);
        earns("(9999*9999-999*1000)/100", 10);
    }

    private static void division() {
        earns("7/2", 3);
        earns("10-7/-2", 13);
        earns("10+-7/2", 7);
        earns("10+-7/-2", 13);
        earns("1/2", 0);
        earns("10+-1/2", 10);
        earns("10+5/0", 10);
        earns("10+0/0", 10);
        earns("10+-5/0", 10);
        earns("10+5/(2-2)", 10);
        earns("10+0/5", 10);
        earns("100/3/3", 11);
        earns("100/3*3", 99);
        earns("2*7/3", 4);
        earns("9-2-3", 4);
        earns("9-2+3", 10);
        earns("9-2*3", 3);
        earns("(9-2)*3", 21);
    }

    private static void digits() {
        earns("digit 0 of 9876", 6);
        earns("digit 1 of 9876", 7);
        earns("digit 3 of 9876", 9);
        earns("digit 4 of 9876", 0);
        earns("digit 6 of (1000*1000)", 1);
        earns("digit 5 of (1000*1000)", 0);
        earns("digit 7 of (1000*1000)", 0);
        earns("digit 9 of (1000*1000)", 0);
        earns("digit 10 of (1000*1000)", 0);
        earns("digit 9999 of 9999", 0);
        earns("digit -1 of 9999", 0);
        earns("digit -(1000*1000) of 9999", 0);
        earns("digit (1000*1000) of 9999", 0);
        earns("digit 0 of -9876", 6);
        earns("digit 3 of -9876", 9);
        earns("digit 6 of -(1000*1000)", 1);
        earns("digit 0 of 0", 0);
        earns("digit 0 of 12*3", 6);
        earns("-digit 0 of 12+10", 8);
        earns("digit - -1 of 12", 1);
    }

    private static void divides() {
        lets("1 divides 0", true);
        lets("0 divides 0", true);
        lets("0 divides 1", false);
        lets("0 divides -1", false);
        lets("-1 divides 5", true);
        lets("2 divides 5", false);
        lets("-2 divides -6", true);
        lets("-2 divides -7", false);
        lets("5 divides 5", true);
        lets("6 divides 5", false);
        lets("1000*1000 divides 1000*1000", true);
        lets("1000*1000 divides 0", true);
        lets("-1000*1000 divides 9999*9999", true);
        lets("2 * 3 divides 3 + 9", true);
    }

    private static void notBinds() {
        lets("not 1 = 1 or 1 = 1", true);
        lets("not 1 = 2 and 1 = 2", false);
        lets("not not not 1 = 2", true);
        lets("1 = 2 and 1 = 2 or 1 = 1", true);
        lets("1 = 1 or 1 = 2 and 1 = 2", true);
        lets("1 = 1 or 1 = 1 and 1 = 2", true);
        lets("1 = 2 or 1 = 1 and not 1 = 2", true);
        lets("1 = 2 or 1 = 1 and not 1 = 1", false);
        lets("1 / 0 = 0 and 1 = 1", true);
    }

    private static void limitsOfLaws() {
        for (String sum : new String[] {"-1", "0", "1", "98", "99", "100", "9999*9999", "-9999*9999"}) {
            ShutDays x = new ShutDays();
            x.house(1, -1, -1, 500, 0);
            Due.told(x, "earns " + sum + "; loses " + sum + ";");
            x.by(0);
            boolean below = sum.startsWith("-");
            int want = below ? 0 : sum.length() > 2 ? 99 : Integer.parseInt(sum);
            Due.due("earns " + sum, x.of(0, 5), want);
            Due.due("loses " + sum, x.of(0, 6), want);
            x.day(1);
            Due.due("more by it", x.of(0, 1), 500 + want);
            x.day(1);
            Due.due("less by it", x.of(0, 1), 500);
        }
    }

    private static void usualLaws() {
        ShutDays x = new ShutDays();
        x.house(5, -1, -1, 0, 49);
        Due.due("1, none beside", x.of(0, 5), 1);
        x.house(6, -1, -1, 0, 50);
        Due.due("1 and one beside", x.of(0, 5), 2);
        x.house(7, -1, -1, 0, 0);
        Due.due("1 and two beside", x.of(1, 5), 3);
        Due.due("2", x.of(1, 6), 2);
        Due.due("49: so", x.of(0, 7), 1);
        Due.due("50: not so", x.of(1, 7), 0);
        Due.told(x, "day 1;");
        x.by(0);
        Due.due("a text without laws: usual", x.of(1, 5), 3);
        Due.due("a text without laws: usual", x.of(1, 6), 2);
        Due.due("a text without laws: usual", x.of(1, 7), 0);
        Due.told(x, "earns 0; loses 0; lets 0 = 1;");
        x.by(1);
        Due.due("a law of 0 is one", x.of(1, 5), 0);
        Due.due("a law of 0 is one", x.of(1, 6), 0);
        Due.due("never", x.of(0, 7), 0);
    }

    private static void namesInLaws() {
        ShutDays x = new ShutDays();
        for (int i = 0; i < 7; i++) {
            x.house(i < 3 ? i : -1, i == 0 ? 19 : -1, i == 0 ? 18 : -1, 90 + i, 80 + i);
        }
        Due.told(x, "earns house; loses purse; lets open = 6 and days = 3;");
        Due.told(x, "earns friends; loses days; lets date = 0 and day = 20;");
        Due.told(x, "earns open; loses beside; lets purse = 96 and friends = 86;");
        x.by(0);
        Due.due("house 0", x.of(0, 5), 0);
        Due.due("house 6", x.of(6, 5), 6);
        Due.due("purse", x.of(6, 6), 96);
        Due.due("open, days", x.of(0, 7), 1);
        Due.due("days of another", x.of(1, 7), 0);
        x.by(1);
        Due.due("friends", x.of(6, 5), 86);
        Due.due("days 3", x.of(0, 6), 3);
        Due.due("days 1", x.of(1, 6), 1);
        Due.due("days 0", x.of(6, 6), 0);
        x.by(2);
        Due.due("open: 0 is shut", x.of(3, 5), 6);
        Due.due("beside the first: one more", x.of(0, 6), 1);
        Due.due("beside the second: one less is shut", x.of(1, 6), 1);
        Due.due("beside the third", x.of(2, 6), 2);
        Due.due("beside the last: one less", x.of(6, 6), 1);
        Due.due("purse, friends", x.of(6, 7), 1);
        x.day(20);
        x.by(1);
        Due.due("day 20 is date 0", x.of(3, 7), 1);
    }
}

/** What the tests share: comparing an answer with the one that is due, and writing onto the tape. */
final class Due {
    private static int wrong = 0;
    private static int asked = 0;

    private Due() {
    }

    static void due(String call, long got, long want) {
        asked++;
        if (got != want) {
            wrong++;
            System.out.println(call + " answered " + got + ", due is " + want);
        }
    }

    static void due(String call, boolean got, boolean want) {
        due(call, got ? 1L : 0L, want ? 1L : 0L);
    }

    static void finish() {
        System.out.println(asked + " answers, " + wrong + " of them wrong");
        if (wrong != 0 || asked == 0) {
            System.exit(1);
        }
    }

    /** The tape is this text alone. */
    static void write(ShutDays x, String text) {
        x.end(0);
        for (int i = 0; i < text.length(); i += 20) {
            x.feed(four(text, i), four(text, i + 4), four(text, i + 8), four(text, i + 12), four(text, i + 16));
        }
        x.end(text.length());
    }

    static int four(String text, int from) {
        int value = 0;
        for (int i = from; i < from + 4; i++) {
            value = value << 8 | (i < text.length() ? text.charAt(i) & 255 : 0);
        }
        return value;
    }

    /** The text is read: its number. */
    static int told(ShutDays x, String text) {
        write(x, text);
        return x.text();
    }

    /** The text has just this fault at this place. */
    static void faulty(String text, int fault, int place) {
        ShutDays x = new ShutDays();
        due("text() of " + text, told(x, text), fault == 0 ? 0 : -1);
        due("fault(0) of " + text, x.fault(0), fault);
        due("fault(1) of " + text, x.fault(1), place);
        due("about(6) behind " + text, x.about(6), 0);
    }
}

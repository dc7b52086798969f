import java.util.Random;

/** Random texts, most of them without a fault, some with a token too many, too few or another one. */
final class ScriptMaker {
    private static final String[] NAMES = {"day", "date", "house", "purse", "friends", "days", "open", "beside"};
    private static final String[] TOKENS = {"day", "beside", "earns", "loses", "lets", "knock", "to", "of", "or",
        "and", "not", "divides", "digit", "<", "<=", ">", ">=", "=", "#", "+", "-", "*", "/", "(", ")", ";", "7",
        "20", "100", "10000", "x", "?", "Day", "\n", "house", "purse", "friends", "hat", "forget", "marry"};

    private final Random random;
    private boolean lets;

    ScriptMaker(Random random) {
        this.random = random;
    }

    private int n(int most) {
        return random.nextInt(most + 1);
    }

    String text() {
        StringBuilder b = new StringBuilder();
        String[] laws = {"earns", "loses", "lets"};
        if (random.nextInt(12) == 0) {
            return manyDays();
        }
        for (int i = 0; i < 3; i++) {
            if (random.nextBoolean()) {
                lets = i == 2;
                b.append(laws[i]).append(' ').append(lets ? either() : sum(3)).append(" ; ");
            }
            if (random.nextBoolean()) {
                b.append(deed());
            }
        }
        while (b.length() < 250 && random.nextInt(4) > 0) {
            b.append(deed());
        }
        String text = b.length() > 300 ? b.substring(0, 300) : b.toString();
        return random.nextInt(3) == 0 ? spoilt(text) : text;
    }

    private String manyDays() {
        return "day 60;".repeat(20 + n(4)) + "day " + n(61) + ";";
    }

    private String deed() {
        String deed = "";
        switch (random.nextInt(7)) {
            case 0:
                deed = "house " + n(6) + " purse " + n(500) + " friends " + n(99);
                break;
            case 1:
            case 2:
                deed = "knock " + n(4);
                break;
            case 3:
                deed = "marry " + n(6) + " to " + n(6);
                break;
            case 4:
                deed = "hat " + n(4);
                break;
            case 5:
                deed = "forget " + n(5) + " of " + n(4);
                break;
            default:
                deed = "day " + (1 + n(9));
                break;
        }
        return deed + (random.nextBoolean() ? " ; " : ";\n");
    }

    private String either() {
        StringBuilder b = new StringBuilder(ask());
        while (random.nextInt(3) == 0) {
            b.append(random.nextBoolean() ? " or " : " and ").append(ask());
        }
        return b.toString();
    }

    private String ask() {
        if (random.nextInt(4) == 0) {
            return "not " + ask();
        }
        String[] how = {" < ", " <= ", " > ", ">=", " = ", "#", " divides "};
        return sum(2) + how[random.nextInt(7)] + sum(2);
    }

    private String sum(int depth) {
        StringBuilder b = new StringBuilder(product(depth));
        while (random.nextInt(3) == 0) {
            b.append(random.nextBoolean() ? " + " : "-").append(product(depth));
        }
        return b.toString();
    }

    private String product(int depth) {
        StringBuilder b = new StringBuilder(one(depth));
        while (random.nextInt(3) == 0) {
            b.append(random.nextInt(3) > 0 ? " * " : " / ").append(one(depth));
        }
        return b.toString();
    }

    private String one(int depth) {
        int kind = random.nextInt(depth > 0 ? 10 : 6);
        if (kind < 2) {
            return Integer.toString(random.nextInt(5) == 0 ? n(9999) : n(12));
        }
        if (kind < 6) {
            return NAMES[random.nextInt(lets && random.nextInt(20) > 0 ? 7 : 8)];
        }
        if (kind < 7) {
            return "(" + sum(depth - 1) + ")";
        }
        if (kind < 8) {
            return "- " + one(random.nextInt(6) == 0 ? depth : depth - 1);
        }
        return "digit " + one(depth - 1) + " of " + one(depth - 1);
    }

    private String spoilt(String text) {
        String[] parts = text.split(" ");
        int at = random.nextInt(parts.length);
        String other = TOKENS[random.nextInt(TOKENS.length)];
        switch (random.nextInt(4)) {
            case 0:
                parts[at] = other;
                break;
            case 1:
                parts[at] = parts[at] + " " + other;
                break;
            case 2:
                parts[at] = "";
                break;
            default:
                parts[at] = "- ( digit ".repeat(random.nextInt(4)) + parts[at];
                break;
        }
        String all = String.join(" ", parts);
        return all.substring(0, Math.min(300, random.nextInt(4) == 0 ? random.nextInt(all.length() + 1) : all.length()));
    }
}

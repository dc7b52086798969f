import java.util.ArrayList;
import java.util.HashSet;
import java.util.List;
import java.util.Set;
import java.util.function.ToLongFunction;
import java.util.regex.Matcher;
import java.util.regex.Pattern;

/** The model's reading of a text: tokens by a pattern, laws as functions of the names. */
final class ModelReader {
    static final class Fault extends Exception {
        private static final long serialVersionUID = 1L;
        final int what;
        final int where;

        Fault(int what, int where) {
            this.what = what;
            this.where = where;
        }
    }

    private static final List<String> NAMES =
            List.of("day", "date", "house", "purse", "friends", "days", "open", "beside");
    private static final Pattern TOKEN =
            Pattern.compile("[ \n]+|([a-zA-Z]+|[0-9]+|<=|>=|.)", Pattern.DOTALL);

    private final List<String> words = new ArrayList<>();
    private final List<Integer> places = new ArrayList<>();
    private int at;
    private boolean lets;

    ModelReader(String tape) {
        Matcher m = TOKEN.matcher(tape);
        while (m.find()) {
            if (m.group(1) != null) {
                words.add(m.group(1));
                places.add(m.start());
            }
        }
        words.add("");
        places.add(tape.length());
    }

    private String word() {
        return words.get(at);
    }

    private Fault fault(int what) {
        return new Fault(what, places.get(at));
    }

    private void take(String word) throws Fault {
        if (!word().equals(word)) {
            throw fault(1);
        }
        at++;
    }

    private boolean took(String... any) {
        for (String s : any) {
            if (word().equals(s)) {
                at++;
                return true;
            }
        }
        return false;
    }

    private String number(int least, int most) throws Fault {
        if (!word().matches("[0-9]+")) {
            throw fault(1);
        }
        String digits = word().replaceFirst("^0+(?=.)", "");
        if (digits.length() > 4 || Integer.parseInt(digits) < least || Integer.parseInt(digits) > most) {
            throw fault(2);
        }
        at++;
        return digits;
    }

    Model.Script script() throws Fault {
        Model.Script s = new Model.Script();
        Set<String> laws = new HashSet<>();
        while (!word().isEmpty()) {
            String first = word();
            if (!List.of("earns", "loses", "lets", "house", "knock", "marry", "hat", "forget", "day").contains(first)) {
                throw fault(1);
            }
            if (laws.contains(first)) {
                throw fault(4);
            }
            if (s.clauses.size() == 24) {
                throw fault(6);
            }
            at++;
            lets = first.equals("lets");
            switch (first) {
                case "earns":
                    s.earns = sum(0);
                    break;
                case "loses":
                    s.loses = sum(0);
                    break;
                case "lets":
                    s.lets = either();
                    break;
                default:
                    break;
            }
            if (List.of("earns", "loses", "lets").contains(first)) {
                laws.add(first);
                s.clauses.add(new String[] {"law"});
            } else {
                s.clauses.add(deed(first));
            }
            take(";");
        }
        return s;
    }

    private String[] deed(String first) throws Fault {
        String a;
        switch (first) {
            case "house":
                a = number(0, 19);
                take("purse");
                String b = number(0, 9999);
                take("friends");
                return new String[] {first, a, b, number(0, 99)};
            case "marry":
                a = number(0, 6);
                take("to");
                return new String[] {first, a, number(0, 6)};
            case "forget":
                a = number(0, 19);
                take("of");
                return new String[] {first, a, number(0, 6)};
            case "day":
                return new String[] {first, number(1, 60)};
            default:
                return new String[] {first, number(0, 6)};
        }
    }

    private ToLongFunction<long[]> either() throws Fault {
        ToLongFunction<long[]> left = both();
        while (took("or")) {
            ToLongFunction<long[]> l = left;
            ToLongFunction<long[]> r = both();
            left = n -> Math.max(l.applyAsLong(n), r.applyAsLong(n));
        }
        return left;
    }

    private ToLongFunction<long[]> both() throws Fault {
        ToLongFunction<long[]> left = ask(0);
        while (took("and")) {
            ToLongFunction<long[]> l = left;
            ToLongFunction<long[]> r = ask(0);
            left = n -> Math.min(l.applyAsLong(n), r.applyAsLong(n));
        }
        return left;
    }

    private int deeper(int depth) throws Fault {
        if (depth == 8) {
            throw fault(3);
        }
        at++;
        return depth + 1;
    }

    private ToLongFunction<long[]> ask(int depth) throws Fault {
        if (word().equals("not")) {
            ToLongFunction<long[]> a = ask(deeper(depth));
            return n -> a.applyAsLong(n) == 0 ? 1 : 0;
        }
        ToLongFunction<long[]> l = sum(depth);
        String how = word();
        if (!took("<", "<=", ">", ">=", "=", "#", "divides")) {
            throw fault(1);
        }
        ToLongFunction<long[]> r = sum(depth);
        return n -> so(how, l.applyAsLong(n), r.applyAsLong(n)) ? 1 : 0;
    }

    private static boolean so(String how, long a, long b) {
        switch (how) {
            case "<":
                return a < b;
            case "<=":
                return a <= b;
            case ">":
                return a > b;
            case ">=":
                return a >= b;
            case "=":
                return a == b;
            case "#":
                return a != b;
            default:
                return a == 0 ? b == 0 : b / a * a == b;
        }
    }

    private static long cut(long v) {
        return v > 1000000 ? 1000000 : v < -1000000 ? -1000000 : v;
    }

    private ToLongFunction<long[]> sum(int depth) throws Fault {
        ToLongFunction<long[]> left = product(depth);
        while (true) {
            ToLongFunction<long[]> l = left;
            if (took("+")) {
                ToLongFunction<long[]> r = product(depth);
                left = n -> cut(l.applyAsLong(n) + r.applyAsLong(n));
            } else if (took("-")) {
                ToLongFunction<long[]> r = product(depth);
                left = n -> cut(l.applyAsLong(n) - r.applyAsLong(n));
            } else {
                return left;
            }
        }
    }

    private ToLongFunction<long[]> product(int depth) throws Fault {
        ToLongFunction<long[]> left = one(depth);
        while (true) {
            ToLongFunction<long[]> l = left;
            if (took("*")) {
                ToLongFunction<long[]> r = one(depth);
                left = n -> cut(l.applyAsLong(n) * r.applyAsLong(n));
            } else if (took("/")) {
                ToLongFunction<long[]> r = one(depth);
                left = n -> r.applyAsLong(n) == 0 ? 0 : l.applyAsLong(n) / r.applyAsLong(n);
            } else {
                return left;
            }
        }
    }

    private ToLongFunction<long[]> one(int depth) throws Fault {
        if (word().matches("[0-9]+")) {
            long v = Long.parseLong(number(0, 9999));
            return n -> v;
        }
        int name = NAMES.indexOf(word());
        if (name >= 0) {
            if (name == 7 && lets) {
                throw fault(5);
            }
            at++;
            return n -> n[name];
        }
        switch (word()) {
            case "(":
                ToLongFunction<long[]> inner = sum(deeper(depth));
                take(")");
                return inner;
            case "-":
                ToLongFunction<long[]> a = one(deeper(depth));
                return n -> -a.applyAsLong(n);
            case "digit":
                int d = deeper(depth);
                ToLongFunction<long[]> p = one(d);
                take("of");
                ToLongFunction<long[]> v = one(d);
                return n -> digit(p.applyAsLong(n), v.applyAsLong(n));
            default:
                throw fault(1);
        }
    }

    private static long digit(long place, long value) {
        String s = new StringBuilder(Long.toString(Math.abs(value))).reverse().toString();
        return place < 0 || place > 9 || place >= s.length() ? 0 : s.charAt((int) place) - '0';
    }
}

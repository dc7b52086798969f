import java.io.IOException;
import java.lang.reflect.Constructor;
import java.lang.reflect.Field;
import java.lang.reflect.Method;
import java.lang.reflect.Modifier;
import java.nio.file.Files;
import java.nio.file.Path;
import java.util.ArrayList;
import java.util.Arrays;
import java.util.List;
import java.util.Set;
import java.util.TreeSet;

/** The face of the document, and the rules of LANGUAGE.md that can be seen from outside. */
public final class FaceTest {
    private static final String[] FACE = {
        "int about(int)", "int alone()", "int appointments(int,int)", "int back()", "int book(int,int)",
        "boolean by(int)", "int crowded(boolean)", "int day(int)", "int end(int)", "int fault(int)",
        "int feast(boolean)", "int feed(int,int,int,int,int)", "int foretold(int,int)", "boolean forget(int,int)",
        "int gossip(int,int)", "int hat(int)", "int house(int,int,int,int,int)", "int image()", "int indoors(int)",
        "int is(int)", "int knock(int)", "int knocks(int,boolean)", "int knows(int,int)", "int leap(int,int)",
        "int marry(int,int)", "int never(int)", "int nextKnock(int,int)", "int night(int)", "int nobodys()",
        "int odds(int,int,int,boolean)", "int of(int,int)", "int offended()", "int played(int)", "int poorest(int)",
        "int richest(boolean)", "int rounds()", "int seen(int,int,boolean)", "int sets(int,int,boolean)",
        "int text()", "int thieves(int,int,boolean)", "int twins()", "int undo()", "int weddings(int)",
        "int whose(int)", "int years(int,int)",
    };

    public static void main(String[] args) throws IOException {
        methods();
        fieldsAndConstructors();
        nested();
        source();
        Due.finish();
    }

    private static String described(Method m) {
        List<String> types = new ArrayList<>();
        for (Class<?> type : m.getParameterTypes()) {
            types.add(type.getName());
        }
        return m.getReturnType().getName() + " " + m.getName() + "(" + String.join(",", types) + ")";
    }

    private static void methods() {
        Set<String> face = new TreeSet<>();
        Set<String> names = new TreeSet<>();
        for (Method m : ShutDays.class.getDeclaredMethods()) {
            if (Modifier.isPublic(m.getModifiers())) {
                face.add(described(m));
                names.add(m.getName());
                Due.due("static " + m.getName(), Modifier.isStatic(m.getModifiers()), false);
            }
        }
        Set<String> want = new TreeSet<>(Arrays.asList(FACE));
        Due.due("the face is " + face, face.equals(want), true);
        for (Method m : ShutDays.class.getDeclaredMethods()) {
            boolean isPublic = Modifier.isPublic(m.getModifiers());
            Due.due("private " + m.getName(), isPublic || Modifier.isPrivate(m.getModifiers()), true);
            Due.due("named as a public one: " + m.getName(), !isPublic && names.contains(m.getName()), false);
            Due.due("parameters of " + m.getName(), m.getParameterCount() <= 7, true);
        }
    }

    private static void fieldsAndConstructors() {
        for (Field f : ShutDays.class.getDeclaredFields()) {
            int mod = f.getModifiers();
            boolean isPublic = Modifier.isPublic(mod);
            Due.due("field " + f.getName(), isPublic ? f.getName().equals("NONE") : Modifier.isPrivate(mod), true);
            Due.due("static " + f.getName(), !Modifier.isStatic(mod) || Modifier.isFinal(mod), true);
        }
        Due.due("NONE", ShutDays.NONE, -1);
        Constructor<?>[] made = ShutDays.class.getDeclaredConstructors();
        Due.due("constructors", made.length, 1);
        Due.due("a public one", Modifier.isPublic(made[0].getModifiers()) && made[0].getParameterCount() == 0, true);
        int mod = ShutDays.class.getModifiers();
        Due.due("public, final", Modifier.isPublic(mod) && Modifier.isFinal(mod), true);
    }

    private static void nested() {
        Class<?>[] inside = ShutDays.class.getDeclaredClasses();
        Due.due("classes", inside.length <= 11, true);
        for (Class<?> c : inside) {
            Due.due("static " + c, Modifier.isStatic(c.getModifiers()), true);
            Due.due("not public " + c, Modifier.isPublic(c.getModifiers()), false);
            int fields = 0;
            for (Field f : c.getDeclaredFields()) {
                boolean isStatic = Modifier.isStatic(f.getModifiers());
                Due.due("static " + f, isStatic && !Modifier.isFinal(f.getModifiers()), false);
                fields += isStatic ? 0 : 1;
            }
            Due.due("fields of " + c, fields <= 20, true);
        }
    }

    private static void source() throws IOException {
        String text = Files.readString(Path.of("src/main/java/ShutDays.java"));
        String code = text.replaceAll("(?s)/\\*.*?\\*/", "").replaceAll("//[^\n]*", "");
        String[] never = {"\\b(throw|throws|try|catch|finally|synchronized|assert|import|package|native)\\b",
            "static\\s*\\{", "->", "::", "\\w+Exact\\b", "System\\.(?!arraycopy)", "\\b(hashCode|toString)\\b"};
        for (String word : never) {
            boolean found = java.util.regex.Pattern.compile(word).matcher(code).find();
            Due.due("in the source: " + word, found, false);
        }
        for (int i = 0; i < text.length(); i++) {
            if (text.charAt(i) > 126) {
                Due.due("a sign above 126 at " + i, text.charAt(i), 0);
            }
        }
        lengths(code);
    }

    /** A method begins with a line that ends in ") {" at the depth of members and ends with its brace. */
    private static void lengths(String code) {
        String[] lines = code.split("\n");
        int from = -1;
        String close = "";
        for (int i = 0; i < lines.length; i++) {
            String line = lines[i];
            if (line.matches(" {4}( {4})?[a-zA-Z].*\\) \\{")) {
                from = i;
                close = line.startsWith("        ") ? "        }" : "    }";
            }
            if (from >= 0 && line.equals(close)) {
                Due.due("lines of " + lines[from].trim(), i - from + 1 <= 60, true);
                from = -1;
            }
        }
    }
}

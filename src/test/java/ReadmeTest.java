import java.io.IOException;
import java.lang.reflect.Method;
import java.lang.reflect.Modifier;
import java.nio.file.Files;
import java.nio.file.Path;

/** README.md: its examples answer what it says, and it names every call of the face. */
public final class ReadmeTest {
    public static void main(String[] args) throws IOException {
        street();
        text();
        refused();
        names();
        Due.finish();
    }

    private static void street() {
        ShutDays town = new ShutDays();
        Due.due("house 0", town.house(3, -1, -1, 10, 5), 0);
        Due.due("house 1", town.house(3, 7, -1, 20, 60), 1);
        Due.due("the date is 3 now", town.day(3), 3);
        Due.due("it is shut", town.knock(0), 1);
        Due.due("the knock is taken back", town.undo(), 3);
        Due.due("the book is empty", town.book(-1, 0), 0);
    }

    private static void text() {
        ShutDays town = new ShutDays();
        town.house(3, -1, -1, 10, 5);
        Due.due("twenty bytes", town.feed(0x6561726e, 0x7320353b, 0, 0, 0), 20);
        Due.due("eight of them", town.end(8), 8);
        int text = town.text();
        Due.due("its number", text, 0);
        Due.due("it rules", town.by(text), true);
        Due.due("earns 5", town.of(0, 5), 5);
    }

    private static void refused() {
        ShutDays town = new ShutDays();
        Due.due("no such house", town.knock(0), ShutDays.NONE);
        Due.due("no such text", town.played(0), -2);
        Due.due("no such text", town.by(0), false);
        Due.due("no such house", town.forget(0, 0), false);
        Due.due("no step", town.about(3), 0);
    }

    private static void names() throws IOException {
        String readme = Files.readString(Path.of("README.md"));
        for (Method m : ShutDays.class.getDeclaredMethods()) {
            if (Modifier.isPublic(m.getModifiers())) {
                Due.due("README.md names " + m.getName(), readme.contains("`" + m.getName() + "`"), true);
            }
        }
    }
}

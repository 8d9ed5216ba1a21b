import java.io.IOException;
import java.lang.reflect.Method;
import java.lang.reflect.Modifier;
import java.nio.file.DirectoryStream;
import java.nio.file.Files;
import java.nio.file.Path;
import java.util.regex.Matcher;
import java.util.regex.Pattern;

/** What README.md shows: its rows of calls answer what it writes behind them, and it names every call and every test. */
public final class ReadmeTest {
    private static final Pattern ROW = Pattern.compile("x\\.(\\w+)\\(([^)]*)\\);\\s*// (-?\\d+): .*");

    public static void main(String[] args) throws IOException, ReflectiveOperationException {
        String page = Files.readString(Path.of("README.md"));
        rows(page);
        for (Method m : RainVault.class.getDeclaredMethods()) {
            if (Modifier.isPublic(m.getModifiers())) {
                Check.due("README.md names " + m.getName() + "()", page.contains("`" + m.getName() + "`") ? 1 : 0, 1);
            }
        }
        try (DirectoryStream<Path> tests = Files.newDirectoryStream(Path.of("src/test/java"), "*Test.java")) {
            for (Path test : tests) {
                String name = test.getFileName().toString().replace(".java", "");
                Check.due("README.md names " + name, page.contains(name) ? 1 : 0, 1);
            }
        }
        Check.end();
    }

    private static void rows(String page) throws ReflectiveOperationException {
        RainVault x = null;
        int looked = 0;
        for (String line : page.split("\n")) {
            if (line.startsWith("RainVault x = ")) {
                x = new RainVault();
            } else if (line.startsWith("x.")) {
                Matcher row = ROW.matcher(line);
                Check.due("row \"" + line + "\" can be read", row.matches() ? 1 : 0, 1);
                Check.due(line, row.matches() ? answer(x, row.group(1), row.group(2)) : 0, row.matches() ? Integer.parseInt(row.group(3)) : 0);
                looked++;
            }
        }
        Check.due("README.md has rows of calls", looked > 10 ? 1 : 0, 1);
    }

    private static int answer(RainVault x, String name, String told) throws ReflectiveOperationException {
        String[] parts = told.isEmpty() ? new String[0] : told.split(", ");
        Object[] arguments = new Object[parts.length];
        Class<?>[] types = new Class<?>[parts.length];
        for (int i = 0; i < parts.length; i++) {
            arguments[i] = Integer.parseInt(parts[i]);
            types[i] = int.class;
        }
        return (Integer) RainVault.class.getMethod(name, types).invoke(x, arguments);
    }
}

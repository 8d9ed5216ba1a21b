import java.io.IOException;
import java.lang.reflect.Field;
import java.lang.reflect.Method;
import java.lang.reflect.Modifier;
import java.nio.file.Files;
import java.nio.file.Path;
import java.util.Set;
import java.util.TreeSet;
import java.util.regex.Matcher;
import java.util.regex.Pattern;

/** The face of the document, and those rules of LANGUAGE.md that can be seen from outside or in single words. */
public final class FaceTest {
    private static final String FACE = "ahead(4) as(2) below(1) buckets(0) carry(1) cat(0) catches(3) change(3) cistern(2) "
        + "cloths(3) cold(1) copy(5) count(1) driest(1) feed(2) first(2) guard(3) hold(2) holding(0) image(0) judge(1) "
        + "leaks(5) load(1) lock(3) lockOf(2) needed(1) of(2) open(0) pick(1) rain(3) rains(1) rust(2) seed(1) sheet(3) "
        + "sides(2) soonest(0) status(1) tear(0) text(0) undo(0) weak(0) weather(1) when(3) wipe(0) write(3)";

    public static void main(String[] args) throws IOException {
        face();
        names();
        words();
        library();
        Check.end();
    }

    private static void face() {
        Set<String> face = new TreeSet<>();
        for (Method m : RainVault.class.getDeclaredMethods()) {
            if (!Modifier.isPrivate(m.getModifiers())) {
                face.add(m.getName() + "(" + m.getParameterCount() + ")");
                Check.same(m.getName() + "() answers", m.getReturnType().getName(), "int");
                Check.due(m.getName() + "() is public, not static", m.getModifiers(), Modifier.PUBLIC);
                for (Class<?> parameter : m.getParameterTypes()) {
                    Check.same(m.getName() + "() takes", parameter.getName(), "int");
                }
            }
        }
        Check.same("the face", String.join(" ", face), FACE);
        Check.due("the class", RainVault.class.getModifiers(), Modifier.PUBLIC | Modifier.FINAL);
        Check.due("constructors", RainVault.class.getDeclaredConstructors().length, 1);
        Check.due("the constructor", RainVault.class.getConstructors()[0].getParameterCount(), 0);
        Check.due("public members", RainVault.class.getFields().length, 0);
    }

    private static void names() {
        Set<String> taken = new TreeSet<>();
        for (String call : FACE.split(" ")) {
            taken.add(call.substring(0, call.indexOf('(')));
        }
        for (Method m : RainVault.class.getDeclaredMethods()) {
            boolean isTwice = Modifier.isPrivate(m.getModifiers()) && taken.contains(m.getName());
            Check.same("a private method", isTwice ? m.getName() : "", "");
        }
        for (Field f : RainVault.class.getDeclaredFields()) {
            Check.due(f.getName() + " is private", f.getModifiers() & Modifier.PRIVATE, Modifier.PRIVATE);
        }
        for (Class<?> inner : RainVault.class.getDeclaredClasses()) {
            Check.due(inner.getName() + " is static", inner.getModifiers() & Modifier.STATIC, Modifier.STATIC);
            for (Method m : inner.getDeclaredMethods()) {
                Check.same("a method inside", taken.contains(m.getName()) ? m.getName() : "", "");
            }
        }
    }

    private static void words() throws IOException {
        String code = code();
        String[] ruledOut = {"throw", "throws", "try", "catch", "synchronized", "assert", "import", "package", "new Object",
            "System.out", "System.err", "Thread", "Random", "nanoTime", "currentTimeMillis", "->", "::", "double", "float"};
        for (String word : ruledOut) {
            boolean isWord = Character.isLetter(word.charAt(0));
            boolean stands = isWord ? code.matches("(?s).*\\b" + word + "\\b.*") : code.contains(word);
            Check.same("ruled out", stands ? word : "", "");
        }
    }

    /** Rule 4: no class of the library but those that the program needs, and of them only what is listed. */
    private static void library() throws IOException {
        Set<String> own = new TreeSet<>(Set.of("RainVault", "String"));
        for (Class<?> inner : RainVault.class.getDeclaredClasses()) {
            own.add(inner.getSimpleName());
        }
        Set<String> listed = Set.of("Math.min", "Math.max", "Integer.bitCount", "System.arraycopy");
        Matcher name = Pattern.compile("\\b[A-Z]+[a-z]\\w*(\\.\\w+)?").matcher(code());
        while (name.find()) {
            boolean isOwn = own.contains(name.group().replaceFirst("\\..*", ""));
            Check.same("a name of the library", isOwn || listed.contains(name.group()) ? "" : name.group(), "");
        }
    }

    /** The source without comments and texts. */
    private static String code() throws IOException {
        String source = Files.readString(Path.of("src/main/java/RainVault.java"));
        return source.replaceAll("(?s)/\\*.*?\\*/", " ").replaceAll("//[^\n]*", " ").replaceAll("\"[^\"\n]*\"", " ");
    }
}

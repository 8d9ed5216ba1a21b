import java.lang.reflect.InvocationTargetException;
import java.lang.reflect.Method;
import java.util.ArrayList;
import java.util.Comparator;
import java.util.List;

/** Any calls with any arguments: none throws, one that answers a finding changes nothing but status(), which counts it. */
public final class AnyCallTest {
    private static final int OBJECTS = 900;
    private static final int CALLS = 512;
    private static final int CALLS_BEFORE = 60;
    private static long last = 46;

    public static void main(String[] args) throws IllegalAccessException {
        List<Method> face = face();
        for (int k = 0; k < OBJECTS; k++) {
            wild(face);
            careful(face);
        }
        Check.end();
    }

    private static List<Method> face() {
        List<Method> face = new ArrayList<>();
        for (Method m : RainVault.class.getDeclaredMethods()) {
            if (java.lang.reflect.Modifier.isPublic(m.getModifiers())) {
                face.add(m);
            }
        }
        face.sort(Comparator.comparing(Method::getName));
        Check.due("calls of the face", face.size(), 45);
        return face;
    }

    private static int next(int below) {
        last = last * 6364136223846793005L + 1442695040888963407L;
        return (int) ((last >>> 33) % below);
    }

    private static int argument() {
        int[] edges = {-1, -2, 39, 40, 41, 100, 101, 120, 9999, 16, 32, 255, Integer.MAX_VALUE, Integer.MIN_VALUE};
        int way = next(12);
        return way < 9 ? next(way + 1) : way < 11 ? edges[next(edges.length)] : next(1 << 30) * 4 + next(4);
    }

    private static int answer(RainVault x, Method m, int[] given) throws IllegalAccessException {
        Object[] arguments = new Object[given.length];
        for (int i = 0; i < given.length; i++) {
            arguments[i] = given[i];
        }
        try {
            return (Integer) m.invoke(x, arguments);
        } catch (InvocationTargetException thrown) {
            Check.same(m.getName() + "()", thrown.getCause().toString(), "an answer");
            return 0;
        }
    }

    private static int[] arguments(Method m) {
        int[] given = new int[m.getParameterCount()];
        for (int i = 0; i < given.length; i++) {
            given[i] = argument();
        }
        return given;
    }

    private static void wild(List<Method> face) throws IllegalAccessException {
        RainVault x = new RainVault();
        for (int k = 0; k < CALLS; k++) {
            Method m = face.get(next(face.size()));
            answer(x, m, arguments(m));
        }
    }

    /** Some calls, then one, and those that look whether anything changed by it. */
    private static void careful(List<Method> face) throws IllegalAccessException {
        RainVault x = new RainVault();
        for (int k = 0; k < CALLS_BEFORE; k++) {
            Method m = face.get(next(face.size()));
            answer(x, m, arguments(m));
        }
        Method m = face.get(next(face.size()));
        int[] given = arguments(m);
        String seen = Check.seen(x);
        int before = x.status(-1);
        int answer = answer(x, m, given);
        boolean tellsDraws = m.getName().equals("seed") || m.getName().equals("count") && given[0] == 6;
        boolean isFinding = answer < -1000000 && !tellsDraws;
        Check.due(m.getName() + "() is counted", x.status(-1), before + (isFinding ? 1 : 0));
        if (isFinding) {
            Check.same("after a finding of " + m.getName() + "()", Check.seen(x), seen);
        }
    }
}

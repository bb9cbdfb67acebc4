import java.lang.reflect.InvocationTargetException;
import java.lang.reflect.Method;
import java.lang.reflect.Modifier;
import java.util.ArrayList;
import java.util.Comparator;
import java.util.List;
import java.util.Random;

/** Calls with wild arguments: none throws, and one that is refused changes nothing. */
final class WildTest {
    private static final int RUNS = 500;
    private static final int CALLS = 512;
    private static final int[] EDGES = {Integer.MIN_VALUE, Integer.MAX_VALUE, -1, 0, 1, 12, 59, 60, 99, 100, 101, 102,
        103, 240, 255, 256, 9999, 10000, 65535, 65536, 0x7ffffff, 1 << 30};

    private WildTest() {
    }

    public static void main(String[] args) throws ReflectiveOperationException {
        List<Method> face = new ArrayList<>();
        for (Method m : BeggingLetter.class.getDeclaredMethods()) {
            if (Modifier.isPublic(m.getModifiers())) {
                face.add(m);
            }
        }
        face.sort(Comparator.comparing(Method::getName));
        for (int run = 0; run < RUNS; run++) {
            go(new Random(run), face, run);
        }
        Due.end();
    }

    private static void go(Random random, List<Method> face, int run) throws IllegalAccessException {
        BeggingLetter x = new BeggingLetter();
        Wording wording = new Wording(random);
        for (int i = 0; i < CALLS; i++) {
            Method m = face.get(random.nextInt(face.size()));
            if (random.nextInt(6) == 0) {
                x.check(0);
                Due.feed(x, Due.bytes(random.nextBoolean() ? wording.law() : wording.report()));
            }
            Object[] arguments = new Object[m.getParameterCount()];
            for (int a = 0; a < arguments.length; a++) {
                arguments[a] = argument(random, m.getName(), x.count(7));
            }
            int before = digest(x);
            String call = "run " + run + ", " + m.getName() + java.util.Arrays.toString(arguments);
            try {
                Object answer = m.invoke(x, arguments);
                if (answer.equals(false) || answer.equals(-1) && !m.getName().equals("check")) {
                    Due.is(call + " was refused", digest(x), before);
                }
            } catch (InvocationTargetException e) {
                Due.holds(call + " threw " + e.getCause(), false);
            }
        }
        Due.holds("run " + run, true);
    }

    private static int argument(Random random, String name, int size) {
        int kind = random.nextInt(20);
        if (name.equals("feed")) {
            return random.nextInt();
        }
        return kind == 0 ? EDGES[random.nextInt(EDGES.length)] : kind == 1 ? random.nextInt() : kind == 2 ? size
            : kind < 12 ? random.nextInt(6) : kind < 17 ? random.nextInt(13) : random.nextInt(128);
    }

    private static int digest(BeggingLetter x) {
        int digest = 0;
        for (int what = 0; what < 16; what++) {
            digest = digest * 31 + x.count(what);
        }
        for (int k = 0; k < 6; k++) {
            for (int what = 0; what < 6; what++) {
                digest = digest * 31 + x.letterIs(k, what);
                digest = digest * 31 + x.far(k, what);
            }
            for (int p = 0; p < 12; p++) {
                digest = digest * 31 + x.toldAt(k, p);
                digest = digest * 31 + x.parishIs(p, k);
                digest = digest * 31 + x.miles(k, p);
            }
        }
        return digest;
    }
}

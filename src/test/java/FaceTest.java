import java.lang.reflect.Constructor;
import java.lang.reflect.Field;
import java.lang.reflect.Method;
import java.lang.reflect.Modifier;
import java.util.Arrays;
import java.util.Set;
import java.util.TreeSet;

/** The members of the class, and that no call throws for any arguments. */
public final class FaceTest {
    private static final String[] METHODS = {
        "int spawn()", "int fork(int)", "int grow(int,int)", "int load(int,int)", "boolean has(int,int)",
        "int store(int,int,int)", "int exit(int,int)", "int reap(int)", "int tick()", "int current()",
        "int block(int)", "int unblock(int)", "int freeFrames()", "int free(int,int)", "int frame(int,int)",
        "int about(int,int)", "int process(int,int)", "int told(int)"};
    private static final String[] CONSTANTS = {
        "NONE", "BAD", "NO_MEMORY", "NO_PROCESS", "FAULT", "NO_CHILD", "WAITS"};
    private static final int[] ODD = {
        Integer.MIN_VALUE, Integer.MIN_VALUE + 1, -16384, -257, -256, -64, -17, -16, -8, -2, -1, 0, 1, 2, 3, 4, 5, 7,
        8, 15, 16, 17, 31, 32, 63, 64, 127, 128, 255, 256, 257, 16383, 16384, 1 << 30, Integer.MAX_VALUE};
    private static final int MOST_CALLS = 512;

    private final int state;
    private PageKernel kernel;
    private int calls;

    private FaceTest(int state) {
        this.state = state;
    }

    public static void main(String[] args) {
        Due.in("the face");
        members();
        constants();
        for (int state = 0; state < 4; state++) {
            Due.in("extreme arguments, state " + state);
            new FaceTest(state).extremes();
        }
        Due.end();
    }

    private static void members() {
        Class<?> type = PageKernel.class;
        Due.that("public and final", Modifier.isPublic(type.getModifiers()) && Modifier.isFinal(type.getModifiers()));
        Set<String> seen = new TreeSet<>();
        Set<String> names = new TreeSet<>();
        for (Method m : type.getDeclaredMethods()) {
            if (Modifier.isPublic(m.getModifiers())) {
                seen.add(signature(m));
                names.add(m.getName());
            }
        }
        Set<String> due = new TreeSet<>(Arrays.asList(METHODS));
        Due.that("public methods " + seen + ", due are " + due, seen.equals(due));
        for (Method m : type.getDeclaredMethods()) {
            int mods = m.getModifiers();
            Due.that(m + " is public or private", Modifier.isPublic(mods) || Modifier.isPrivate(mods));
            Due.that(m + " has a name of its own", Modifier.isPublic(mods) || !names.contains(m.getName()));
        }
        for (Field f : type.getDeclaredFields()) {
            boolean constant = Arrays.asList(CONSTANTS).contains(f.getName());
            Due.that(f + " is public just if it is of the face", constant == Modifier.isPublic(f.getModifiers()));
            Due.that(f + " is private else", constant || Modifier.isPrivate(f.getModifiers()));
        }
        Constructor<?>[] made = type.getDeclaredConstructors();
        Due.that("one public constructor", made.length == 1 && Modifier.isPublic(made[0].getModifiers())
            && made[0].getParameterCount() == 0);
    }

    private static String signature(Method m) {
        StringBuilder text = new StringBuilder();
        for (Class<?> p : m.getParameterTypes()) {
            text.append(text.length() == 0 ? "" : ",").append(p);
        }
        return m.getReturnType() + " " + m.getName() + "(" + text + ")";
    }

    private static void constants() {
        int[] due = {-1, -2, -3, -4, -5, -6, -7};
        int[] got = {PageKernel.NONE, PageKernel.BAD, PageKernel.NO_MEMORY, PageKernel.NO_PROCESS, PageKernel.FAULT,
            PageKernel.NO_CHILD, PageKernel.WAITS};
        for (int i = 0; i < due.length; i++) {
            Due.is(CONSTANTS[i], due[i], got[i]);
        }
    }

    private void extremes() {
        for (int a : ODD) {
            tried("one argument", () -> {
                PageKernel x = next();
                x.block(a);
                x.unblock(a);
                x.fork(a);
                x.reap(a);
                x.told(a);
                x.tick();
                x.current();
                x.freeFrames();
            });
            for (int b : ODD) {
                tried("two arguments", () -> two(a, b));
            }
        }
    }

    private void two(int a, int b) {
        PageKernel x = next();
        x.grow(a, b);
        x.load(a, b);
        x.has(a, b);
        x.store(a, b, a ^ b);
        x.free(a, b);
        x.frame(a, b);
        x.about(a, b);
        x.process(a, b);
        if ((a ^ b) % 7 == 0) {
            x.exit(a, b);
        }
    }

    private PageKernel next() {
        if (kernel == null || calls + 10 > MOST_CALLS) {
            kernel = new PageKernel();
            calls = prepare();
        }
        calls += 10;
        return kernel;
    }

    private int prepare() {
        int made = 0;
        for (int i = 0; i < state * 5; i++) {
            kernel.spawn();
            kernel.grow(i, 3 * state);
            kernel.fork(i / 2);
            kernel.block(i % 3);
            made += 4;
        }
        return made;
    }

    private static void tried(String what, Runnable calls) {
        try {
            calls.run();
        } catch (RuntimeException e) {
            Due.that(what + " threw " + e, false);
        }
    }
}

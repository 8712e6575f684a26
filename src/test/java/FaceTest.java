import java.lang.reflect.Constructor;
import java.lang.reflect.Field;
import java.lang.reflect.Method;
import java.lang.reflect.Modifier;
import java.util.Random;
import java.util.Set;
import java.util.TreeSet;

/** The public face is the document's and nothing else, and no call throws, whatever its arguments. */
public final class FaceTest {
    private static final String[] FACE = {"boolean allow 2", "boolean dial 3", "boolean hangup 1", "boolean send 3",
        "boolean core 2", "boolean restart 1", "int tick 0", "boolean drop 1", "boolean swap 1", "int flight 0",
        "int packet 2", "int state 1", "int address 1", "int heard 2", "int cored 1", "int source 1",
        "int circuit 2", "int session 2", "int channel 2"};
    private static final int[] EDGES = {Integer.MIN_VALUE, Integer.MIN_VALUE + 1, -3, -2, -1, 0, 1, 2, 3, 4, 5, 6,
        7, 8, 9, 39, 40, 41, Integer.MAX_VALUE - 1, Integer.MAX_VALUE};
    private static final Check CHECK = new Check();

    public static void main(String[] args) throws ReflectiveOperationException {
        methodsAreThoseOfTheDocument();
        nothingElseShows();
        noCallThrows();
        longLifeDoesNotThrow();
        CHECK.finish();
    }

    private static void methodsAreThoseOfTheDocument() {
        CHECK.begin("the face");
        Set<String> found = new TreeSet<>();
        for (Method m : SubscriberLines.class.getDeclaredMethods()) {
            if (Modifier.isPublic(m.getModifiers())) {
                found.add(m.getReturnType() + " " + m.getName() + " " + m.getParameterCount());
                for (Class<?> type : m.getParameterTypes()) {
                    CHECK.yes("int parameter of " + m.getName(), type == int.class);
                }
            }
        }
        Set<String> due = new TreeSet<>(Set.of(FACE));
        CHECK.same("methods " + found, found.equals(due) ? 1 : 0, 1);
        CHECK.yes("public", Modifier.isPublic(SubscriberLines.class.getModifiers()));
        CHECK.yes("final", Modifier.isFinal(SubscriberLines.class.getModifiers()));
    }

    private static void nothingElseShows() {
        for (Method m : SubscriberLines.class.getDeclaredMethods()) {
            int mod = m.getModifiers();
            CHECK.yes(m.getName() + " is public or private", Modifier.isPublic(mod) || Modifier.isPrivate(mod));
        }
        for (Field f : SubscriberLines.class.getDeclaredFields()) {
            CHECK.yes(f.getName() + " is private", Modifier.isPrivate(f.getModifiers()));
        }
        Constructor<?>[] made = SubscriberLines.class.getDeclaredConstructors();
        CHECK.same("constructors", made.length, 1);
        CHECK.yes("public constructor", Modifier.isPublic(made[0].getModifiers()));
        for (Class<?> c : SubscriberLines.class.getDeclaredClasses()) {
            CHECK.yes(c.getName() + " is static", Modifier.isStatic(c.getModifiers()));
            CHECK.no(c.getName() + " is public", Modifier.isPublic(c.getModifiers()));
        }
    }

    private static void noCallThrows() throws ReflectiveOperationException {
        CHECK.begin("no call throws");
        Random r = new Random(5);
        for (int run = 0; run < 200; run++) {
            SubscriberLines x = new SubscriberLines(EDGES[run % EDGES.length]);
            for (int user = 0; user < 4; user++) {
                x.allow(user, 1);
            }
            for (int call = 0; call < 512; call++) {
                anyCall(x, r);
            }
        }
    }

    private static void anyCall(SubscriberLines x, Random r) throws ReflectiveOperationException {
        if (r.nextInt(4) == 0) {
            x.tick();
            return;
        }
        Method[] all = SubscriberLines.class.getMethods();
        Method m = all[r.nextInt(all.length)];
        if (m.getDeclaringClass() != SubscriberLines.class) {
            return;
        }
        Object[] values = new Object[m.getParameterCount()];
        for (int i = 0; i < values.length; i++) {
            values[i] = r.nextInt(3) == 0 ? EDGES[r.nextInt(EDGES.length)] : r.nextInt(6);
        }
        m.invoke(x, values);
    }

    // Beyond 512 calls the answers are free, but a call must still end: here messages are put much
    // faster than they are acknowledged, until more of them wait than the program keeps.
    private static void longLifeDoesNotThrow() {
        CHECK.begin("a long life");
        SubscriberLines x = new SubscriberLines(4);
        for (int t = 0; t < 500; t++) {
            for (int i = 0; i < 30; i++) {
                x.dial(i % 4, 1, 1);
                x.hangup(i % 4);
            }
            x.tick();
        }
    }
}

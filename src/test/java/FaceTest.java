import java.lang.reflect.Constructor;
import java.lang.reflect.Field;
import java.lang.reflect.Method;
import java.lang.reflect.Modifier;
import java.util.Arrays;
import java.util.Random;
import java.util.TreeSet;

/**
 * The public face is the document's and no other; no call throws, whatever its
 * arguments and the state; the same calls have the same answers.
 */
public final class FaceTest {
    private static final String[] FACE = {
        "feed 5", "end 1", "told 1", "fault 1", "count 1", "look 2", "line 3", "adds 3", "cuts 3", "label 2",
        "sets 3", "worth 3", "seen 2", "total 2", "is 2", "why 2", "many 2", "row 4", "takes 3", "could 3",
        "sure 2", "unlike 2", "hint 2", "key 2", "spares 2", "bars 2", "span 1", "reverse 1", "mirrors 1",
        "sprouts 1", "edge 1", "grafts 3", "family 4", "rule 3", "drops 1", "undo 0", "tell 2", "octet 1"};
    private static final int[] EDGES = {0, 1, 2, 3, 4, 5, 6, 7, -1, -2, 10, 20, 30, 31, 32, 99, 100, 255, 400, 65536,
        Integer.MAX_VALUE, Integer.MIN_VALUE};
    private static int wrong = 0;

    public static void main(String[] args) throws ReflectiveOperationException {
        lookAtFace();
        for (int seed = 0; seed < 200; seed++) {
            if (!Arrays.equals(wildRun(seed), wildRun(seed))) {
                say("seed " + seed + " has unlike answers when run again");
            }
        }
        System.out.println(wrong + " faults of the face");
        if (wrong != 0) {
            System.exit(1);
        }
    }

    private static void say(String fault) {
        wrong++;
        System.out.println(fault);
    }

    private static void lookAtFace() throws ReflectiveOperationException {
        Class<?> c = FairLabels.class;
        TreeSet<String> open = new TreeSet<>();
        for (Method m : c.getDeclaredMethods()) {
            if (!Modifier.isPrivate(m.getModifiers())) {
                open.add(m.getName() + " " + m.getParameterCount());
                if (m.getReturnType() != int.class || !Modifier.isPublic(m.getModifiers())
                    || Modifier.isStatic(m.getModifiers())) {
                    say(m + " is not as the document has it");
                }
                for (Class<?> type : m.getParameterTypes()) {
                    if (type != int.class) {
                        say(m + " takes another type");
                    }
                }
            }
        }
        if (!open.equals(new TreeSet<>(Arrays.asList(FACE)))) {
            say("the methods are " + open);
        }
        for (Field f : c.getDeclaredFields()) {
            boolean isNone = f.getName().equals("NONE");
            if (isNone != Modifier.isPublic(f.getModifiers()) || !isNone && !Modifier.isPrivate(f.getModifiers())) {
                say(f + " is open, or should be");
            }
        }
        Constructor<?>[] made = c.getDeclaredConstructors();
        if (made.length != 1 || made[0].getParameterCount() != 0 || !Modifier.isPublic(made[0].getModifiers())) {
            say("the constructor is not as the document has it");
        }
        if (!Modifier.isFinal(c.getModifiers()) || !Modifier.isPublic(c.getModifiers())) {
            say("the class is not public and final");
        }
        for (Class<?> inside : c.getDeclaredClasses()) {
            if (!Modifier.isStatic(inside.getModifiers()) || Modifier.isPublic(inside.getModifiers())) {
                say(inside + " is not static, or is public");
            }
        }
    }

    private static int[] wildRun(int seed) throws ReflectiveOperationException {
        Random r = new Random(seed);
        Method[] methods = new Method[FACE.length];
        for (int i = 0; i < FACE.length; i++) {
            String[] parts = FACE[i].split(" ");
            Class<?>[] types = new Class<?>[Integer.parseInt(parts[1])];
            Arrays.fill(types, int.class);
            methods[i] = FairLabels.class.getMethod(parts[0], types);
        }
        FairLabels x = new FairLabels();
        int[] answers = new int[512];
        for (int i = 0; i < answers.length; i++) {
            Method m = methods[r.nextInt(methods.length)];
            if (m.getName().equals("drops") && r.nextInt(4) > 0) {
                m = methods[32];
            }
            Object[] given = new Object[m.getParameterCount()];
            for (int j = 0; j < given.length; j++) {
                given[j] = r.nextInt(4) == 0 ? EDGES[r.nextInt(EDGES.length)]
                    : m.getName().equals("feed") ? (Integer) textWord(r) : (Integer) r.nextInt(5);
            }
            try {
                answers[i] = (Integer) m.invoke(x, given);
            } catch (java.lang.reflect.InvocationTargetException e) {
                say("seed " + seed + ": " + m.getName() + Arrays.toString(given) + " throws " + e.getCause());
                return answers;
            }
        }
        return answers;
    }

    private static int textWord(Random r) {
        String signs = "netlabs0123456789:;,-= \n";
        int w = 0;
        for (int i = 0; i < 4; i++) {
            w = w << 8 | signs.charAt(r.nextInt(signs.length()));
        }
        return w;
    }
}

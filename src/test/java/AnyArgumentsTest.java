import java.lang.reflect.Field;
import java.lang.reflect.InvocationTargetException;
import java.lang.reflect.Method;
import java.lang.reflect.Modifier;
import java.util.Arrays;
import java.util.Random;
import java.util.TreeSet;

/** Whatever is asked in whatever state, an answer comes; a refusal changes nothing; the face is the document's. */
public final class AnyArgumentsTest {
    private static final int[] NUMBERS = {0, 1, 2, 3, 5, 6, 7, 8, 9, 10, 12, 13, 20, 21, 39, 40, 41, 60, 61, -1, -2, -9,
        127, 128, 255, 256, Integer.MAX_VALUE, Integer.MAX_VALUE - 1, Integer.MIN_VALUE, Integer.MIN_VALUE + 1};
    private static final String FACE = "asked() at(int,int) canal(int) cell(int) copy(int,int,int,int,int) count(int) "
        + "digest() fault(int) finding() findings(int) home(int) keep(int) kinds(int,int) lay(int,int,int) level(int) "
        + "lies(int,int) lots(int,int) lower() mark(int,int) mean(int) mid(int,int,int) move(int,int) "
        + "moves(int,int,int) night(int,int,int,int) odds(int,int,int,int) on(int) owned(int) paddle(int) "
        + "put(int,int,int) row(int,int) stand(int) starts(int,int) stops(int) take(int) tear(int) text(int,int) "
        + "thing(int,int) three() thrown(int,int,int) undo(int) upper() weights(int,int) year()";

    public static void main(String[] args) throws ReflectiveOperationException {
        face();
        Random random = new Random(7);
        for (int run = 0; run < 4000; run++) run(random, run % 2 == 0 ? new CanalRings() : Trial.canal(Trial.SIX));
        Trial.end("AnyArgumentsTest");
    }

    private static void face() {
        TreeSet<String> names = new TreeSet<>();
        for (Method m : CanalRings.class.getDeclaredMethods()) {
            if (Modifier.isPrivate(m.getModifiers())) continue;
            String types = Arrays.toString(m.getParameterTypes()).replace("[", "").replace("]", "").replace(" ", "");
            names.add(m.getName() + "(" + types + ")");
            boolean wide = m.getName().equals("upper") || m.getName().equals("lower") || m.getName().equals("digest");
            Trial.due(m.getName() + " answers as told", m.getReturnType() == (wide ? long.class : int.class) ? 1 : 0, 1);
            Trial.due(m.getName() + " is public", m.getModifiers(), Modifier.PUBLIC);
        }
        Trial.due("the face is " + names, String.join(" ", names).equals(FACE) ? 1 : 0, 1);
        Trial.due("public final", CanalRings.class.getModifiers(), Modifier.PUBLIC | Modifier.FINAL);
        Trial.due("constructors", CanalRings.class.getConstructors().length, 1);
        Trial.due("public fields", CanalRings.class.getFields().length, 6);
        for (Field f : CanalRings.class.getDeclaredFields()) {
            int constant = Modifier.PUBLIC | Modifier.STATIC | Modifier.FINAL;
            boolean hidden = Modifier.isPrivate(f.getModifiers());
            Trial.due(f.getName() + " is private or of the face", hidden || f.getModifiers() == constant ? 1 : 0, 1);
        }
        for (Class<?> inside : CanalRings.class.getDeclaredClasses()) {
            boolean open = Modifier.isPublic(inside.getModifiers()) || Modifier.isProtected(inside.getModifiers());
            Trial.due(inside + " is static", Modifier.isStatic(inside.getModifiers()) ? 1 : 0, 1);
            Trial.due(inside + " is not of the face", open ? 1 : 0, 0);
        }
    }

    private static void run(Random random, CanalRings x) throws ReflectiveOperationException {
        Method[] calls = Arrays.stream(CanalRings.class.getMethods())
            .filter(m -> m.getDeclaringClass() == CanalRings.class)
            .sorted((a, b) -> a.getName().compareTo(b.getName())).toArray(Method[]::new);
        // Each call is looked at by eight more, and a canal takes up to 30 to be made: 512 calls are promised.
        for (int k = 0; k < 53; k++) {
            Method call = calls[random.nextInt(calls.length)];
            Object[] numbers = new Object[call.getParameterCount()];
            for (int i = 0; i < numbers.length; i++) {
                numbers[i] = random.nextInt(3) == 0 ? NUMBERS[random.nextInt(NUMBERS.length)] : random.nextInt(7);
            }
            answer(call, x, numbers);
        }
    }

    private static void answer(Method call, CanalRings x, Object[] numbers) throws ReflectiveOperationException {
        String said = call.getName() + Arrays.toString(numbers);
        long[] before = told(x);
        try {
            Object got = call.invoke(x, numbers);
            boolean telling = call.getParameterCount() == 0 && !call.getName().equals("year") && !call.getName().equals("three");
            if (telling || !(got instanceof Integer number) || number >= 0) return;
            Trial.due(said + " is a refusal or NONE", " -1 -2 -3 -4 -9 ".contains(" " + number + " ") ? 1 : 0, 1);
            long[] after = told(x);
            for (int i = 0; i < before.length; i++) Trial.due(said + " changes nothing", after[i], before[i]);
        } catch (InvocationTargetException thrown) {
            Trial.due(said + " threw " + thrown.getCause(), 0, 1);
        }
    }

    private static long[] told(CanalRings x) {
        return new long[] {x.digest(), x.asked(), x.upper(), x.lower()};
    }
}

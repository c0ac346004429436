import java.lang.reflect.InvocationTargetException;
import java.lang.reflect.Method;
import java.lang.reflect.Modifier;
import java.util.ArrayList;
import java.util.Comparator;
import java.util.List;
import java.util.Random;

/** No call throws, for any arguments in any state: runs of 512 calls with arguments at and around all bounds. */
public final class AnyCallTest {
    private static final int[] EDGES = {Integer.MIN_VALUE, Integer.MIN_VALUE + 1, -2, -1, 0, 1, 2, 3, 4, 5, 6, 7, 8, 9, 10, 11,
        12, 13, 30, 31, 47, 48, 59, 60, 61, 95, 96, 105, 106, 199, 200, 254, 255, 256, 510, 511, 512, 718, 719, 720, 779, 780,
        799, 800, 801, 998, 999, 1000, 1001, Integer.MAX_VALUE - 1, Integer.MAX_VALUE};
    private static final String[] TEXTS = {"warn 1 when 1=1;", "warn 60 when near>0;", "lift when left>9;", "wait when hour=3;",
        "warn left+5 when soon<9 or not(seen=0 and words>1);", "warn 9999*9999*9999/7 when 1=1;", "wait when ((((((((1=1))))))));"};

    public static void main(String[] args) throws IllegalAccessException {
        List<Method> face = new ArrayList<>();
        for (Method m : StormOffice.class.getDeclaredMethods()) {
            if (Modifier.isPublic(m.getModifiers())) face.add(m);
        }
        face.sort(Comparator.comparing(Method::getName));
        Due.due("methods of the face", face.size(), 33);
        for (int seed = 0; seed < 400; seed++) run(face, new Random(seed), seed);
        Due.finish();
    }

    private static void run(List<Method> face, Random random, int seed) throws IllegalAccessException {
        StormOffice x = new StormOffice();
        boolean mild = seed % 2 == 0;
        int calls = 0;
        while (calls < 512) {
            if (random.nextInt(40) == 0) {
                Due.rules(x, TEXTS[random.nextInt(TEXTS.length)]);
                calls += 5;
            }
            Method m = face.get(random.nextInt(face.size()));
            Object[] values = new Object[m.getParameterCount()];
            for (int i = 0; i < values.length; i++) {
                boolean truth = m.getParameterTypes()[i] == boolean.class;
                if (truth) values[i] = random.nextInt(4) > 0;
                else values[i] = mild && random.nextInt(8) > 0 ? random.nextInt(8) : EDGES[random.nextInt(EDGES.length)];
            }
            try {
                m.invoke(x, values);
            } catch (InvocationTargetException thrown) {
                Due.due("run " + seed + ": " + m.getName() + java.util.Arrays.toString(values) + " threw " + thrown.getCause(), 1, 0);
                return;
            }
            calls++;
        }
        Due.due("NOW is a MINUTE", x.look(0) >= 0 && x.look(0) <= 719, true);
    }
}

import java.lang.reflect.InvocationTargetException;
import java.lang.reflect.Method;
import java.util.ArrayList;
import java.util.Comparator;
import java.util.List;
import java.util.Random;

/** No call throws, whatever its numbers, in whatever state; and what it answers below 0 is one of the document's. */
public final class NeverThrowsTest {
    private static final int OBJECTS = 1500, CALLS = 512;
    private static final int[] ENDS = {Integer.MIN_VALUE, Integer.MIN_VALUE + 1, -25, -24, -14, -5, -4, -3, -2, -1, 0, 1, 2, 3, 4, 5, 6, 7, 8, 9, 10, 14,
        15, 20, 21, 23, 24, 25, 30, 31, 32, 40, 41, 48, 49, 58, 60, 61, 64, 99, 100, 126, 127, 150, 151, 999, 1000, Integer.MAX_VALUE - 1, Integer.MAX_VALUE};
    private static final String TEXT = "4:30@0,9:22@2,2:9@1,14:41@3,6:17@0,5:5@5;p53=0,d91=1,t72=3,l64";

    public static void main(String[] args) throws Exception {
        List<Method> face = new ArrayList<>();
        for (Method m : OrchardLadders.class.getMethods()) {
            if (m.getDeclaringClass() == OrchardLadders.class) {
                face.add(m);
            }
        }
        face.sort(Comparator.comparing(Method::getName));
        Random random = new Random(20);
        for (int run = 0; run < OBJECTS; run++) {
            OrchardLadders x = run % 2 == 0 ? new OrchardLadders() : Check.read(TEXT);
            for (int call = run % 2 == 0 ? 0 : TEXT.length() + 1; call < CALLS; call++) {
                Method m = face.get(random.nextInt(face.size()));
                Object[] numbers = numbers(m, random);
                String words = m.getName() + java.util.Arrays.toString(numbers);
                try {
                    int answer = (Integer) m.invoke(x, numbers);
                    Check.holds(words + " answered " + answer, told(m.getName(), answer));
                } catch (InvocationTargetException e) {
                    Check.holds(words + " threw " + e.getCause(), false);
                }
            }
        }
        Check.end();
    }

    private static Object[] numbers(Method m, Random random) {
        Object[] numbers = new Object[m.getParameterCount()];
        boolean calm = random.nextInt(3) != 0;
        for (int i = 0; i < numbers.length; i++) {
            int v = calm ? random.nextInt(5) : ENDS[random.nextInt(ENDS.length)];
            if (m.getParameterTypes()[i] == long.class) {
                numbers[i] = random.nextBoolean() ? random.nextLong() : (long) v;
            } else {
                numbers[i] = v;
            }
        }
        return numbers;
    }

    private static boolean told(String name, int answer) {
        return answer >= -4 || answer <= -11 && answer >= -14 || name.equals("orchard") && answer <= -20 && answer >= -110;
    }
}

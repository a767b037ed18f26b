import java.lang.reflect.Method;
import java.lang.reflect.Modifier;
import java.util.ArrayList;
import java.util.Comparator;
import java.util.List;
import java.util.Random;

/** Any call with any numbers in any state answers: nothing is ever thrown, not even far behind the 512th call. */
public final class WildTest {
    private static final int[] NUMBERS = {Integer.MIN_VALUE, Integer.MIN_VALUE + 1, -61, -2, -1, 0, 1, 2, 3, 4, 5, 6, 7, 8,
        9, 10, 11, 20, 23, 24, 40, 41, 52, 60, 61, 0x01010061, 0x02016101, 0x01016201, Integer.MAX_VALUE - 1,
        Integer.MAX_VALUE};

    public static void main(String[] args) throws Exception {
        List<Method> calls = new ArrayList<>();
        for (Method m : KeyDrive.class.getDeclaredMethods()) {
            if (Modifier.isPublic(m.getModifiers())) {
                calls.add(m);
            }
        }
        calls.sort(Comparator.comparing(Method::getName));
        for (int seed = 0; seed < 60; seed++) {
            run(calls, new Random(seed));
        }
    }

    private static void run(List<Method> calls, Random random) throws Exception {
        KeyDrive d = new KeyDrive();
        for (int i = 0; i < 6000; i++) {
            d.feed(number(random), number(random), number(random), number(random), number(random));
            Method m = calls.get(random.nextInt(calls.size()));
            Object[] numbers = new Object[m.getParameterCount()];
            for (int j = 0; j < numbers.length; j++) {
                numbers[j] = number(random);
            }
            m.invoke(d, numbers);
        }
    }

    private static int number(Random random) {
        int small = random.nextInt(9);
        return random.nextBoolean() ? small : NUMBERS[random.nextInt(NUMBERS.length)];
    }
}

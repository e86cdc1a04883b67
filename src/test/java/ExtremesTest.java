import java.lang.reflect.Method;
import java.lang.reflect.Modifier;
import java.util.ArrayList;
import java.util.Comparator;
import java.util.List;

/** Any call with any numbers in any state: no call throws, and two objects answer the same. */
public final class ExtremesTest extends Due {
    private static final int MOST_CALLS = 512;
    private static final int[] NUMBERS = {0, 1, 2, 3, 4, 5, 6, 7, 8, 12, 16, 24, 31, 32, 40, 59, 60, 61, 64, 100, 999, 1000,
        1001, 1200, 100000, -1, -2, -3, 65535, 0x3b3b3b3b, 0x61206220, Integer.MAX_VALUE, Integer.MIN_VALUE,
        Integer.MAX_VALUE - 1, Integer.MIN_VALUE + 1};
    private static final String[] TEXTS = {
        "thing a weighs 9;thing b weighs 7;thing c weighs 5;thing d weighs 3;thing e weighs 1;plan p a b(c d(done/a e(done/done))/done);",
        "twins;sticks 1;thing a weighs 3;thing b weighs 3;thing c weighs 2;thing d weighs 4;row d a;plan q done;plan p a b(done/done/c d(done/done));",
        "thing a weighs 1;thing b weighs 2;", "thing a weighs 5;", "", "thing a weighs 999;thing a weighs 2;"};
    private static long seed = 4711;

    private static int rest(int n) {
        seed = seed * 6364136223846793005L + 1442695040888963407L;
        return (int) ((seed >>> 33) % n);
    }

    private static Object[] given(Method m) {
        Object[] given = new Object[m.getParameterCount()];
        for (int j = 0; j < given.length; j++) {
            boolean small = rest(3) > 0;
            given[j] = m.getParameterTypes()[j] == boolean.class ? (Object) (rest(2) == 0)
                : (Object) NUMBERS[rest(small ? 8 : NUMBERS.length)];
        }
        return given;
    }

    /** A text takes some ten calls. */
    private static void read(HeavierRow x, String text) {
        x.end(0);
        feed(x, text);
        x.street();
    }

    public static void main(String[] args) throws ReflectiveOperationException {
        List<Method> calls = new ArrayList<>();
        for (Method m : HeavierRow.class.getDeclaredMethods()) {
            if (Modifier.isPublic(m.getModifiers())) {
                calls.add(m);
            }
        }
        calls.sort(Comparator.comparing(Method::getName));
        int done = 0;
        for (int run = 0; run < 100; run++) {
            HeavierRow x = new HeavierRow();
            HeavierRow y = new HeavierRow();
            for (int used = 0; used < MOST_CALLS; used++, done++) {
                if (rest(60) == 0 && used + 20 < MOST_CALLS) {
                    String text = TEXTS[rest(TEXTS.length)];
                    read(x, text);
                    read(y, text);
                    used += 15;
                }
                Method m = calls.get(rest(calls.size()));
                if (m.getName().equals("street") && rest(4) > 0) {
                    continue;
                }
                Object[] given = given(m);
                Object one = m.invoke(x, given);
                if (!one.equals(m.invoke(y, given))) {
                    System.out.println("ExtremesTest: two objects answer " + m.getName() + " not alike");
                    System.exit(1);
                }
            }
        }
        System.out.println("ExtremesTest: " + done + " calls without an exception");
    }
}

import java.lang.reflect.InvocationTargetException;
import java.lang.reflect.Method;
import java.util.Arrays;
import java.util.List;
import java.util.Random;

/** Any arguments in any state: a call answers, or throws what the face names, by a throw of its own (its text tells). */
final class WildTest {
    private static final int[] NUMBERS = {Integer.MIN_VALUE, Integer.MIN_VALUE + 1, -65536, -9, -2, -1, 0, 1, 2, 3, 4, 5, 6, 7,
        8, 9, 10, 19, 20, 21, 31, 32, 33, 40, 41, 59, 60, 61, 63, 64, 65, 99, 100, 255, 256, 399, 400, 401, 999, 1000,
        65536, Integer.MAX_VALUE - 1, Integer.MAX_VALUE};
    private static final String[] TEXTS = {Due.FIVE, "person 999;person 0;person 500", "bar 99;pays 99;premium 20", "bar",
        "reinsured 0 1;reinsured 1 0;asked 1 0;asked 2 0", "wed 0 2 happy 99", "lift 30 if not(rich or insured)",
        "sour 30 if happy+months+quarrel+insurers+liking+month>999", "lift 1 if ((((((rich", ";", "", "likes 0 00000",
        "\u0000\u0001\u0000", "\u0000\u0000\u0001", "\u00ff\u00ff\u00ff", "lift 1 if not not not not not not not rich"};

    private static int calls = 0;
    private static int thrown = 0;

    public static void main(String[] args) throws IllegalAccessException {
        Method[] face = RivalWeds.class.getDeclaredMethods();
        face = Arrays.stream(face).filter(m -> java.lang.reflect.Modifier.isPublic(m.getModifiers())).toArray(Method[]::new);
        Arrays.sort(face, (a, b) -> a.getName().compareTo(b.getName()));
        for (int run = 0; run < 300; run++) {
            Random random = new Random(run);
            RivalWeds x = new RivalWeds();
            for (int call = 0; call < 512; call++) {
                if (random.nextInt(4) == 0) {
                    Due.tape(x, TEXTS[random.nextInt(TEXTS.length)]);
                }
                made(x, face[random.nextInt(face.length)], random, run % 3);
            }
        }
        if (thrown == 0 || calls == thrown) {
            Due.fail("wild calls should both answer and throw");
        }
        System.out.println("WildTest: " + calls + " calls, " + thrown + " threw");
        Due.close("WildTest");
    }

    private static void made(RivalWeds x, Method method, Random random, int wild) throws IllegalAccessException {
        Class<?>[] types = method.getParameterTypes();
        Object[] given = new Object[types.length];
        for (int i = 0; i < given.length; i++) {
            boolean small = wild > 0 && random.nextInt(6) > 0;
            given[i] = types[i] == boolean.class ? (Object) random.nextBoolean()
                    : (Object) (small ? random.nextInt(6) : NUMBERS[random.nextInt(NUMBERS.length)]);
        }
        calls++;
        try {
            method.invoke(x, given);
        } catch (InvocationTargetException e) {
            thrown++;
            judge(method, given, e.getCause());
        }
    }

    private static void judge(Method method, Object[] given, Throwable e) {
        List<Class<?>> named = Arrays.asList(method.getExceptionTypes());
        boolean own = e.getStackTrace().length > 0 && e.getStackTrace()[0].getClassName().equals("RivalWeds");
        if (!named.contains(e.getClass()) || !own || e.getMessage() == null || e.getMessage().matches(".*[0-9]+ out of.*")) {
            Due.fail(method.getName() + Arrays.toString(given) + " threw " + e);
        }
    }
}

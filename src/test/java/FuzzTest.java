import java.lang.reflect.InvocationTargetException;
import java.lang.reflect.Method;
import java.util.Arrays;
import java.util.Comparator;
import java.util.Random;

/** Runs of calls, the same in each run of the test, on PebbleCourses and on Model: all answers must agree. */
final class FuzzTest {
    private static final int RUNS = 400;
    private static final int CALLS = 512;
    private static final int[] WILD = {Integer.MIN_VALUE, -61, -7, -1, 6, 7, 8, 60, 61, 99, 100, 127, 1 << 20,
        0x20000000, Integer.MAX_VALUE};
    private static final String SIGNS = "abcdef123456!;";

    private static final Checks CHECKS = new Checks();

    private final Random random;
    private final int wildOneIn;

    private FuzzTest(int seed) {
        random = new Random(seed);
        wildOneIn = seed % 4 == 0 ? 8 : 60;
    }

    public static void main(String[] args) throws Exception {
        for (int seed = 0; seed < RUNS; seed++) {
            CHECKS.at("seed " + seed);
            new FuzzTest(seed).run();
        }
        CHECKS.end();
    }

    private static Method[] face() {
        return Arrays.stream(PebbleCourses.class.getDeclaredMethods())
                .filter(m -> java.lang.reflect.Modifier.isPublic(m.getModifiers()))
                .sorted(Comparator.comparing(Method::getName))
                .toArray(Method[]::new);
    }

    private void run() throws Exception {
        Method[] face = face();
        PebbleCourses real = new PebbleCourses();
        Model model = new Model();
        if (random.nextInt(3) > 0) {
            int cells = 24 + random.nextInt(37);
            CHECKS.due("set(0, ..)", model.set(0, cells), real.set(0, cells));
        }
        for (int i = 0; i < CALLS; i++) {
            Method method = face[random.nextInt(face.length)];
            if (isDear(method) && random.nextInt(6) > 0 || isRare(method) && random.nextInt(5) > 0) {
                method = PebbleCourses.class.getMethod("lay", int.class, int.class);
            }
            if (method.getName().equals("append") && random.nextInt(3) > 0) {
                appendText(real, model);
                continue;
            }
            Object[] values = values(method);
            String call = i + ": " + method.getName() + Arrays.toString(values);
            CHECKS.dueText(call, answer(model, method, values), answer(real, method, values));
        }
        CHECKS.due("digest at the end", model.digest(), real.digest());
    }

    private static boolean isDear(Method method) {
        String name = method.getName();
        return name.equals("digest") || name.equals("bestRule");
    }

    private static boolean isRare(Method method) {
        String name = method.getName();
        return name.equals("fillAll") || name.equals("stock") || name.equals("takeUp") || name.equals("clearBuffer");
    }

    private void appendText(PebbleCourses real, Model model) {
        StringBuilder text = new StringBuilder();
        int parts = 1 + random.nextInt(3);
        for (int part = 0; part < parts; part++) {
            text.append(part > 0 ? ";" : "").append((char) ('a' + random.nextInt(6)));
            int sizes = 1 + random.nextInt(5);
            for (int k = 0; k < sizes; k++) {
                text.append(1 + random.nextInt(6)).append(random.nextInt(5) == 0 ? "!" : "");
            }
        }
        if (random.nextInt(4) == 0) {
            text.setCharAt(random.nextInt(text.length()), SIGNS.charAt(random.nextInt(SIGNS.length())));
        }
        if (random.nextInt(2) == 0) {
            CHECKS.due("clearBuffer()", model.clearBuffer(), real.clearBuffer());
        }
        for (int k = 0; k < text.length() && random.nextInt(200) > 0; k++) {
            int code = text.charAt(k);
            Checks.Call modelCall = () -> model.append(code);
            Checks.Call realCall = () -> real.append(code);
            CHECKS.dueText("append(" + code + ")", Checks.answer(modelCall), Checks.answer(realCall));
        }
        CHECKS.due("firstError() of " + text, model.firstError(), real.firstError());
        if (random.nextInt(2) == 0) {
            CHECKS.dueText("layAll() of " + text, Checks.answer(model::layAll), Checks.answer(real::layAll));
        }
    }

    private Object[] values(Method method) {
        Class<?>[] types = method.getParameterTypes();
        Object[] values = new Object[types.length];
        for (int k = 0; k < types.length; k++) {
            values[k] = types[k] == boolean.class ? (Object) random.nextBoolean()
                    : (Object) number(method.getName(), k);
        }
        return values;
    }

    private int number(String name, int place) {
        if (random.nextInt(wildOneIn) == 0) {
            return WILD[random.nextInt(WILD.length)];
        }
        switch (name + place) {
            case "stock1":
                return random.nextInt(3) == 0 ? 99 : random.nextInt(12);
            case "set1":
                return random.nextInt(2) == 0 ? random.nextInt(3) : 24 + random.nextInt(37);
            case "takeUp1":
                return 1 + random.nextInt(random.nextInt(4) == 0 ? 60 : 3);
            case "append0":
                return SIGNS.charAt(random.nextInt(SIGNS.length()));
            case "cell1":
                return random.nextInt(random.nextInt(3) == 0 ? 61 : 24);
            case "setting0":
            case "set0":
            case "ifFilled1":
            case "ifFilled2":
                return random.nextInt(3);
            case "cell2":
                return random.nextInt(4);
            case "count0":
                return random.nextInt(8);
            case "course1":
                return random.nextInt(7);
            default:
                boolean isSize = name.equals("stockOf") || name.equals("stock") || place == 1;
                return random.nextInt(6) + (isSize ? 1 : 0);
        }
    }

    private static String answer(Object object, Method method, Object[] values) throws Exception {
        Method own = object.getClass().getMethod(method.getName(), method.getParameterTypes());
        try {
            return String.valueOf(own.invoke(object, values));
        } catch (InvocationTargetException e) {
            return e.getCause().getClass().getSimpleName();
        }
    }
}

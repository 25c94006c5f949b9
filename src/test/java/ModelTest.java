import java.lang.reflect.InvocationTargetException;
import java.lang.reflect.Method;
import java.util.ArrayList;
import java.util.Comparator;
import java.util.List;
import java.util.Random;

/** All promises: long random runs, each answer held against the plain model's. */
public final class ModelTest {
    private static final int RUNS = 400;
    private static final int CALLS = 512;
    private static final long[] ODD = {-1, 5, 6, 7, 12, 13, 21, 25, 40, 41, 99, 100, 101, 300, 301,
        Integer.MAX_VALUE, Integer.MIN_VALUE, Integer.MAX_VALUE - 11, Integer.MIN_VALUE + 24};

    private final Random random;
    private final SundayMarket real = new SundayMarket();
    private final Model model = new Model();
    private final List<Method> calls;
    private final int run;
    private int made = 0;

    private ModelTest(int run, List<Method> calls) {
        this.run = run;
        this.random = new Random(run);
        this.calls = calls;
    }

    public static void main(String[] args) throws ReflectiveOperationException {
        List<Method> calls = new ArrayList<>();
        for (Method method : SundayMarket.class.getDeclaredMethods()) {
            if (java.lang.reflect.Modifier.isPublic(method.getModifiers())) {
                calls.add(method);
            }
        }
        // The machine tells methods in no order of its own.
        calls.sort(Comparator.comparing(Method::getName));
        for (int run = 0; run < RUNS; run++) {
            new ModelTest(run, calls).go();
        }
        Due.end();
    }

    private void go() throws ReflectiveOperationException {
        if (random.nextInt(4) != 0) {
            typeText();
        }
        while (made < CALLS) {
            Method method = calls.get(random.nextInt(calls.size()));
            boolean isRare = method.getName().equals("person") || method.getName().equals("type");
            if (method.getName().equals("read") && random.nextInt(4) == 0) {
                typeText();
            } else if (!(isRare || method.getName().equals("read")) || random.nextInt(6) == 0) {
                call(method, arguments(method));
            }
        }
    }

    private void typeText() throws ReflectiveOperationException {
        String text = TextTest.text(random);
        // Of calls beyond the last one nothing is promised.
        if (made + text.length() + 1 > CALLS) {
            return;
        }
        for (char letter : text.toCharArray()) {
            call(named("type"), new Object[] {(int) letter});
        }
        call(named("read"), new Object[0]);
    }

    private Method named(String name) {
        return calls.stream().filter(method -> method.getName().equals(name)).findFirst().orElseThrow();
    }

    /** The ranges of each call's arguments, less odd ones now and then. */
    private static int[] ranges(String name) {
        switch (name) {
            case "person": return new int[] {5};
            case "love": case "seize": case "both": return new int[] {-1, -1};
            case "least": return new int[] {13};
            case "of": return new int[] {-1, 6};
            case "has": return new int[] {-1, 12, 2};
            case "at": return new int[] {6, 2};
            case "type": return new int[] {128};
            case "count": return new int[] {7};
            case "sell": return new int[] {-1, -1, 12, 30};
            case "give": return new int[] {-1, -1, 30};
            case "make": return new int[] {6, 2, 2};
            case "drift": return new int[] {5};
            case "seed": return new int[] {Integer.MAX_VALUE};
            case "gain": case "middle": return new int[] {-1, -1, 12};
            case "best": case "market": return new int[] {2};
            case "longest": case "envy": return new int[] {-1, 2};
            case "stretch": return new int[] {-1, 13, 2};
            case "more": return new int[] {-1, 5, 21, 2};
            case "hands": return new int[] {12};
            case "rain": return new int[] {-1, 140, 11, 2};
            case "told": return new int[] {-1, 2, 2, 6, 5, 2};
            case "film": return new int[] {-1, 13, 2, 2, 14};
            case "sheet": return new int[] {3, 2, 25};
            case "drop": return new int[] {4};
            case "item": return new int[] {2, 2, 8, 21};
            case "copy": return new int[] {3, 12, 3, 12, 9};
            default: return new int[0];
        }
    }

    private Object[] arguments(Method method) {
        int[] ranges = ranges(method.getName());
        Object[] out = new Object[ranges.length];
        for (int i = 0; i < ranges.length; i++) {
            long value = random.nextInt(ranges[i] < 0 ? Math.max(1, model.count(0)) : ranges[i]);
            if (random.nextInt(25) == 0) {
                value = ODD[random.nextInt(ODD.length)];
            }
            boolean isLong = method.getParameterTypes()[i] == long.class;
            if (isLong && random.nextInt(5) == 0) {
                value = random.nextLong();
            }
            out[i] = isLong ? (Object) value : (Object) (int) value;
        }
        return out;
    }

    private void call(Method method, Object[] arguments) throws ReflectiveOperationException {
        made++;
        Method plain = Model.class.getDeclaredMethod(method.getName(), method.getParameterTypes());
        int want = (int) plain.invoke(model, arguments);
        String text = "run " + run + ", call " + made + ": " + method.getName() + java.util.Arrays.toString(arguments);
        try {
            Due.due(text, (int) method.invoke(real, arguments), want);
        } catch (InvocationTargetException e) {
            Due.same(text, "a throw of " + e.getCause(), "no throw");
        }
    }
}

import java.lang.reflect.InvocationTargetException;
import java.lang.reflect.Method;
import java.util.ArrayList;
import java.util.Arrays;
import java.util.Comparator;
import java.util.List;
import java.util.Random;

/** Runs of 512 calls, drawn from fixed seeds, answered by the program as by the model. */
public final class ModelTest {
    private static final int RUNS = 1500;
    private static final int CALLS = 512;
    private static final int[] ODD = {Integer.MIN_VALUE, Integer.MAX_VALUE, -2, -1, 3, 10, 24, 32, 100, 1000};
    private static final String[] CHANGES = {
        "setTrust", "addRecord", "addRecord", "setKey", "setKey", "setKey", "setFact", "setFact", "see", "forbid",
        "allow", "pass", "setLimit"
    };

    private final Random random;
    private final int keyCount;
    private final int recordCount;
    private final int dropRarity;
    private final List<Method> methods = new ArrayList<>();

    private ModelTest(long seed) {
        random = new Random(seed);
        keyCount = 1 + random.nextInt(random.nextBoolean() ? 4 : 14);
        recordCount = 2 + random.nextInt(23);
        dropRarity = 20 + random.nextInt(150);
        for (Method method : Assetmerge.class.getMethods()) {
            if (method.getDeclaringClass() == Assetmerge.class) {
                methods.add(method);
            }
        }
        methods.sort(Comparator.comparing(Method::getName));
    }

    public static void main(String[] args) throws IllegalAccessException {
        for (int seed = 0; seed < RUNS; seed++) {
            new ModelTest(seed).run("run " + seed);
        }
        Checks.end();
    }

    private void run(String name) throws IllegalAccessException {
        Assetmerge program = new Assetmerge();
        Model model = new Model();
        for (int i = 0; i < CALLS; i++) {
            Method method = draw(i);
            int[] arguments = new int[method.getParameterCount()];
            for (int place = 0; place < arguments.length; place++) {
                arguments[place] = random.nextInt(60) == 0 ? ODD[random.nextInt(ODD.length)]
                        : argument(method.getName(), place);
            }
            String call = name + ", call " + i + ": " + method.getName() + Arrays.toString(arguments);
            Checks.due(call, answer(program, method, arguments), model.answer(method.getName(), arguments));
        }
    }

    private Method draw(int place) {
        String name = place < 2 ? "addSource" : place < 2 + recordCount / 2 ? "addRecord"
                : random.nextInt(dropRarity) == 0 ? "drop"
                : random.nextInt(3) == 0 ? CHANGES[random.nextInt(CHANGES.length)] : "";
        if (name.isEmpty()) {
            Method drawn = methods.get(random.nextInt(methods.size()));
            return drawn.getName().equals("drop") ? draw(place) : drawn;
        }
        return methods.stream().filter(method -> method.getName().equals(name)).findFirst().orElseThrow();
    }

    private int argument(String name, int place) {
        switch (name) {
            case "addSource": return 1 + random.nextInt(9);
            case "setTrust": return place == 0 ? random.nextInt(3) : 1 + random.nextInt(9);
            case "addRecord": return place == 0 ? random.nextInt(2) : drawKey();
            case "setKey": case "thingsIf":
                return place == 0 ? drawRecord() : place == 1 ? random.nextInt(3) : drawKey();
            case "setFact":
                return place == 0 ? drawRecord() : place == 1 ? random.nextInt(3) : random.nextInt(4) - 1;
            case "key": case "fact": case "factByPairs": case "factFrom": case "agreement":
                return place == 0 ? drawRecord() : random.nextInt(3);
            case "member": return place == 0 ? drawRecord() : random.nextInt(5);
            case "shared": return random.nextInt(3);
            case "setLimit": return 1 + random.nextInt(random.nextBoolean() ? 99 : 20);
            case "pass": return 1 + random.nextInt(random.nextInt(4) == 0 ? 99 : 12);
            default: return drawRecord();
        }
    }

    private int drawRecord() {
        return random.nextInt(recordCount);
    }

    private int drawKey() {
        return random.nextInt(3) == 0 ? -1 : random.nextInt(keyCount);
    }

    private static String answer(Assetmerge program, Method method, int[] arguments) throws IllegalAccessException {
        Object[] boxed = Arrays.stream(arguments).boxed().toArray();
        try {
            return String.valueOf(method.invoke(program, boxed));
        } catch (InvocationTargetException e) {
            return e.getCause().getClass().getSimpleName();
        }
    }
}

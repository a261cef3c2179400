import java.lang.reflect.InvocationTargetException;
import java.lang.reflect.Method;
import java.util.ArrayList;
import java.util.List;
import java.util.Map;
import java.util.Random;
import java.util.TreeMap;

/** All promises: long runs of calls, with fixed seeds, on the class and on Model: the answers are the same. */
public final class ModelTest {
    private static final int RUNS = 3000;
    private static final int CALLS = 512;
    private static final int[] EDGES = {Integer.MIN_VALUE, Integer.MAX_VALUE, -2, 8, 64};
    private static final Map<String, Method> REAL = methodsOf(SegmentTrees.class);
    private static final Map<String, Method> MODEL = methodsOf(Model.class);
    private static final Map<String, Integer> seen = new TreeMap<>();

    private final Random random;
    private final SegmentTrees real = new SegmentTrees();
    private final Model model = new Model();
    private final List<String> calls = new ArrayList<>();
    private final List<Integer> declared = new ArrayList<>();
    private final int values;
    private final int growth;
    private boolean wrong;

    private ModelTest(int seed) {
        random = new Random(seed);
        values = 1 + random.nextInt(5);
        growth = 1 + random.nextInt(12);
    }

    public static void main(String[] args) throws IllegalAccessException {
        for (int seed = 0; seed < RUNS; seed++) {
            ModelTest run = new ModelTest(seed);
            if (!run.isRight()) {
                System.out.println("run " + seed + ":");
                run.calls.forEach(System.out::println);
                System.exit(1);
            }
        }
        if (args.length > 0) {
            seen.forEach((answer, times) -> System.out.println(answer + ": " + times));
        }
        System.out.println(RUNS + " runs of " + CALLS + " calls, all answers the same");
    }

    private static Map<String, Method> methodsOf(Class<?> of) {
        Map<String, Method> methods = new TreeMap<>();
        for (Method method : of.getMethods()) {
            if (method.getDeclaringClass() == of) {
                method.setAccessible(true);
                methods.put(method.getName(), method);
            }
        }
        return methods;
    }

    private boolean isRight() throws IllegalAccessException {
        declare();
        while (calls.size() < CALLS && !wrong) {
            act();
        }
        return !wrong;
    }

    private void ask(String name, Object... arguments) throws IllegalAccessException {
        if (wrong || calls.size() >= CALLS) {
            return;
        }
        String due = answer(MODEL.get(name), model, arguments);
        String got = answer(REAL.get(name), real, arguments);
        calls.add(name + java.util.Arrays.toString(arguments) + " -> " + got + (got.equals(due) ? "" : ", due is " + due));
        wrong = !got.equals(due);
        if (name.equals("type") && !got.startsWith("throws")) {
            declared.add((Integer) arguments[0]);
        }
        seen.merge(name + " " + (got.matches("-?[0-9]{2,}|[1-9]") ? "number" : got), 1, Integer::sum);
    }

    private static String answer(Method method, Object target, Object[] arguments) throws IllegalAccessException {
        try {
            return String.valueOf(method.invoke(target, arguments));
        } catch (InvocationTargetException e) {
            return "throws " + e.getCause().getClass().getSimpleName();
        }
    }

    private int value() {
        return random.nextInt(60) == 0 ? EDGES[random.nextInt(EDGES.length)] : random.nextInt(values) - 1;
    }

    private int anyType() {
        if (!declared.isEmpty() && random.nextInt(30) > 0) {
            return declared.get(random.nextInt(declared.size()));
        }
        return random.nextInt(5) == 0 ? EDGES[random.nextInt(EDGES.length)] : random.nextInt(8);
    }

    private int anyWord() {
        return random.nextInt(30) == 0 ? random.nextInt(7) - 1 : random.nextInt(2);
    }

    /** Most types have the same length and sequence, so that twins are found often. */
    private void declare() throws IllegalAccessException {
        int length = 2 + random.nextInt(2);
        int sequence = random.nextInt(length);
        int tries = 6 + random.nextInt(20);
        for (int i = 0; i < tries; i++) {
            int parent = random.nextInt(4) == 0 ? -1 : random.nextInt(9) == 0 ? random.nextInt(11) - 2 : anyType();
            boolean odd = random.nextInt(5) == 0;
            ask("type", random.nextInt(20) == 0 ? anyType() : random.nextInt(8), parent, odd ? random.nextInt(6) : length,
                    odd ? random.nextInt(6) - 2 : sequence, random.nextInt(3) == 0, random.nextBoolean());
        }
        for (int i = 0; i < 8; i++) {
            ask("twins", anyType(), anyType());
        }
        for (int i = 0; i < 6; i++) {
            ask("second", anyType(), anyWord());
        }
        if (random.nextInt(3) == 0) {
            ask("bySecond", true);
        }
    }

    private void act() throws IllegalAccessException {
        int choice = random.nextInt(100);
        if (choice < 15) {
            ask("work", random.nextInt(50) == 0 ? random.nextInt(9) - 3 : random.nextInt(4), value());
        } else if (choice < 20 + 2 * growth) {
            ask("insert", anyType());
        } else if (choice < 52) {
            state();
        } else if (choice < 62) {
            look();
        } else if (choice < 65) {
            rare();
        } else if (choice < 66) {
            sweep();
        } else {
            get();
        }
    }

    /** Goes through some of the order, within the bounds of a run. */
    private void sweep() throws IllegalAccessException {
        ask("clearPath");
        ask("unique", false);
        if (random.nextBoolean()) {
            ask("fix");
        }
        for (int i = random.nextInt(30); i > 0; i--) {
            ask(random.nextInt(4) == 0 ? "within" : "next", false);
        }
    }

    private void state() throws IllegalAccessException {
        if (random.nextInt(2) == 0) {
            ask("clearPath");
        } else {
            ask("path", anyType(), anyWord(), random.nextInt(40) == 0 ? random.nextInt(11) - 2 : random.nextInt(7), value());
        }
    }

    private void look() throws IllegalAccessException {
        switch (random.nextInt(6)) {
            case 0 -> ask("at");
            case 1 -> ask("place");
            case 2 -> ask("word", anyWord());
            case 3 -> ask("count");
            case 4 -> ask("fix");
            default -> ask("segment", random.nextInt(random.nextBoolean() ? 20 : 100),
                    random.nextBoolean() ? random.nextInt(5) : 9 + random.nextInt(6));
        }
    }

    private void rare() throws IllegalAccessException {
        switch (random.nextInt(10)) {
            case 0 -> ask("type", anyType(), random.nextInt(9) - 1, 2, 0, true, true);
            case 1 -> ask("twins", anyType(), anyType());
            case 2 -> ask("second", anyType(), anyWord());
            default -> ask("bySecond", random.nextInt(3) > 0);
        }
    }

    private void get() throws IllegalAccessException {
        String[] gets = {"unique", "next", "next", "within", "within"};
        ask(gets[random.nextInt(gets.length)], random.nextInt(3) > 0);
        if (random.nextInt(4) == 0) {
            ask("work", random.nextInt(4), value());
        }
        if (random.nextInt(5) == 0) {
            look();
        }
        int choice = random.nextInt(40);
        if (choice < 10) {
            ask("replace");
            ask("place");
        } else if (choice < 10 + 24 / growth) {
            ask("delete");
            ask(random.nextBoolean() ? "place" : "at");
        }
    }
}

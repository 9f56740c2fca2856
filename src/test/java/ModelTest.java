import java.lang.reflect.InvocationTargetException;
import java.lang.reflect.Method;
import java.util.ArrayList;
import java.util.Arrays;
import java.util.Comparator;
import java.util.List;

/** Long runs of calls, the same each time, whose answers and exceptions must be those of the model. */
final class ModelTest {
    private static final int CALLS = 512;
    private static final int[] EXTREMES = {Integer.MIN_VALUE, Integer.MAX_VALUE, -1000, 1000, 999, 0, -1};
    private static final String SIGNS = "+-udfrwt;=^0123456789 x";
    private static final String[] CHANGES = {"file", "fileTall", "drop", "raise", "lower", "forget", "recall", "weigh",
        "toss"};

    private long seed;
    private int keys;
    private SkipArchive archive;
    private Model model;
    private int calls;
    private final StringBuilder told = new StringBuilder();

    private static final List<Method> METHODS = methods();
    private static final java.util.Map<String, Method> MODEL = modelMethods();

    private static List<Method> methods() {
        List<Method> methods = new ArrayList<>(Arrays.asList(SkipArchive.class.getDeclaredMethods()));
        methods.removeIf(method -> !java.lang.reflect.Modifier.isPublic(method.getModifiers()));
        methods.sort(Comparator.comparing(Method::getName));
        return methods;
    }

    private static java.util.Map<String, Method> modelMethods() {
        java.util.Map<String, Method> methods = new java.util.HashMap<>();
        for (Method method : Model.class.getDeclaredMethods()) {
            if (java.lang.reflect.Modifier.isPublic(method.getModifiers())) {
                methods.put(method.getName(), method);
            }
        }
        return methods;
    }

    private int pick(int bound) {
        seed = seed * 6364136223846793005L + 1442695040888963407L;
        return (int) ((seed >>> 33) % bound);
    }

    private static Method method(String name) {
        for (Method method : METHODS) {
            if (method.getName().equals(name)) {
                return method;
            }
        }
        throw new AssertionError(name);
    }

    private static Object answer(Object object, Method method, Object[] arguments) {
        try {
            return method.invoke(object, arguments);
        } catch (InvocationTargetException e) {
            return "throws." + e.getCause().getClass().getName();
        } catch (IllegalAccessException e) {
            throw new AssertionError(e);
        }
    }

    /** Whether the answers are the same. */
    private boolean call(Method method, Object... arguments) {
        if (calls >= CALLS) {
            return true;
        }
        calls++;
        Object due = answer(model, MODEL.get(method.getName()), arguments);
        Object given = answer(archive, method, arguments);
        told.append(method.getName()).append(Arrays.toString(arguments)).append(" -> ").append(given).append('\n');
        if (due.equals(given)) {
            return true;
        }
        Check.fault("due is " + due + " for the last of\n" + told);
        return false;
    }

    private int key() {
        return pick(25) == 0 ? EXTREMES[pick(EXTREMES.length)] : pick(keys) * (999 / keys) + pick(2);
    }

    private int small(int bound) {
        return pick(25) == 0 ? EXTREMES[pick(EXTREMES.length)] : pick(bound) - (pick(12) == 0 ? 1 : 0);
    }

    private int argument(String name, int place) {
        switch (name) {
            case "file":
            case "fileTall":
            case "weigh":
                return place == 0 ? key() : place == 1 ? small(pick(6) == 0 ? 101 : 4) : small(7);
            case "forget":
            case "recall":
            case "levelSize":
            case "headSpan":
            case "isForgotten":
            case "line":
                return small(6);
            case "span":
                return place == 0 ? key() : small(6);
            case "levelAt":
                return place == 0 ? small(6) : small(12);
            case "folderOf":
            case "placeOf":
                return place == 0 ? key() : small(6);
            case "keyAt":
                return small(26);
            case "character":
                return small(30);
            case "reason":
                return small(4);
            case "account":
                return small(11);
            default:
                return key();
        }
    }

    private boolean callAny(Method method) {
        Class<?>[] types = method.getParameterTypes();
        Object[] arguments = new Object[types.length];
        for (int i = 0; i < types.length; i++) {
            if (types[i] == char.class) {
                arguments[i] = pick(9) == 0 ? (char) pick(65536) : SIGNS.charAt(pick(SIGNS.length()));
            } else {
                arguments[i] = argument(method.getName(), i);
            }
        }
        return call(method, arguments);
    }

    private String command() {
        int key = pick(keys) * (999 / keys) + pick(2);
        String padded = pick(4) == 0 ? String.format("%03d", key) : "" + key;
        switch (pick(9)) {
            case 0:
            case 1:
                return "+" + padded + "=" + pick(pick(4) == 0 ? 100 : 4) + (pick(2) == 0 ? "" : "^" + (pick(6) + pick(2)));
            case 2:
                return "-" + padded;
            case 3:
                return "u" + padded;
            case 4:
                return "d" + padded;
            case 5:
                return "f" + pick(6);
            case 6:
                return "r" + pick(6);
            case 7:
                return "w" + padded + "=" + pick(4);
            default:
                return "t";
        }
    }

    private String text() {
        StringBuilder text = new StringBuilder(command());
        for (int more = pick(4); more > 0; more--) {
            text.append(';').append(command());
        }
        if (pick(3) == 0) {
            int place = pick(text.length());
            switch (pick(4)) {
                case 0:
                    text.setLength(place);
                    break;
                case 1:
                    text.deleteCharAt(place);
                    break;
                case 2:
                    text.insert(place, SIGNS.charAt(pick(SIGNS.length())));
                    break;
                default:
                    text.setCharAt(place, SIGNS.charAt(pick(SIGNS.length())));
                    break;
            }
        }
        return text.toString();
    }

    private boolean callText() {
        boolean same = true;
        String text = text();
        for (int i = 0; same && i < text.length(); i++) {
            same = call(method("append"), text.charAt(i));
        }
        return same && call(method("commands")) && call(method("faultPosition"));
    }

    private boolean look() {
        boolean same = true;
        for (int what = 0; same && what < 10; what++) {
            same = call(method("account"), what);
        }
        for (int level = 0; same && level < 5; level++) {
            same = call(method("line"), level);
        }
        return same;
    }

    /** Whether all answers are the same; which kind of run it is depends on the number. */
    private boolean run(int number) {
        seed = number * 7919L + 17;
        pick(2);
        keys = 1 + pick(number % 3 == 0 ? 60 : 12);
        archive = new SkipArchive();
        model = new Model();
        calls = 0;
        told.setLength(0);
        for (int filed = 0; filed < (number % 4) * 8; filed++) {
            callAny(method(pick(2) == 0 ? "file" : "fileTall"));
        }
        boolean same = true;
        while (same && calls < CALLS) {
            int kind = pick(20);
            if (kind == 0) {
                same = callText();
            } else if (kind == 1 && pick(4) == 0) {
                same = look();
            } else if (kind < 6) {
                same = callAny(method(CHANGES[pick(CHANGES.length)]));
            } else {
                same = callAny(METHODS.get(pick(METHODS.size())));
            }
        }
        return same;
    }

    static void everyPromiseAsTheModelTells() {
        ModelTest test = new ModelTest();
        boolean same = true;
        for (int number = 0; same && number < 2000; number++) {
            same = test.run(number);
        }
    }

    /** Every answer that depends on a key, for every key, on ladders of every size. */
    static void everyKeyOnLaddersOfEverySize() {
        ModelTest test = new ModelTest();
        String[] names = {"rank", "rankAgain", "steps", "stepsAgain", "falls", "floor", "ceiling"};
        for (int size = 0; size <= 24; size++) {
            test.seed = size;
            test.keys = 40;
            for (String name : names) {
                test.fill(size);
                for (int key = -1; key <= 42; key++) {
                    test.call(method(name), key);
                }
            }
        }
    }

    private void fill(int size) {
        archive = new SkipArchive();
        model = new Model();
        calls = 0;
        told.setLength(0);
        call(method("forget"), 1 + size % 4);
        call(method("forget"), 1 + size % 3);
        while (model.account(0) < size) {
            call(method("fileTall"), pick(42), pick(100), 1 + Integer.numberOfTrailingZeros(16 + pick(16)));
        }
    }
}

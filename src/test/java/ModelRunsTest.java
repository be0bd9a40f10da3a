import java.lang.reflect.InvocationTargetException;
import java.lang.reflect.Method;
import java.lang.reflect.Modifier;
import java.util.ArrayList;
import java.util.Arrays;
import java.util.Comparator;
import java.util.HashMap;
import java.util.List;
import java.util.Map;
import java.util.Random;
import java.util.TreeMap;

/** Runs of calls, made by seeds, on the program and on the model; each answer must be the same. */
public final class ModelRunsTest {

    private static final int MOST_CALLS = 512;
    private static final Map<String, Method> MODEL = new HashMap<>();
    private static final List<Method> FACE = new ArrayList<>();
    private static final Map<String, Integer> ANSWERED = new TreeMap<>();
    private static final Map<String, Integer> THROWN = new TreeMap<>();

    private final Random random;
    private final CriticalweekPlans program = new CriticalweekPlans();
    private final Model model = new Model();
    private final List<String> told = new ArrayList<>();
    private final int style;
    private final boolean isPure;
    private boolean isAsking;

    private ModelRunsTest(long seed) {
        random = new Random(seed);
        style = random.nextInt(5);
        isPure = random.nextInt(4) == 0;
    }

    public static void main(String[] args) throws Exception {
        int runs = args.length > 0 ? Integer.parseInt(args[0]) : 150;
        long from = args.length > 1 ? Long.parseLong(args[1]) : 0;
        for (Method method : Model.class.getDeclaredMethods()) {
            if (!Modifier.isPrivate(method.getModifiers()) && !Modifier.isStatic(method.getModifiers())) {
                MODEL.put(method.getName(), method);
            }
        }
        for (Method method : CriticalweekPlans.class.getDeclaredMethods()) {
            if (Modifier.isPublic(method.getModifiers())) {
                FACE.add(method);
            }
        }
        FACE.sort(Comparator.comparing(Method::getName));
        int wrong = 0;
        for (long seed = from; seed < from + runs && wrong < 5; seed++) {
            if (!new ModelRunsTest(seed).runWell(seed)) {
                wrong++;
            }
        }
        for (Method method : FACE) {
            if (!ANSWERED.containsKey(method.getName())) {
                System.out.println("no run had an answer of " + method.getName());
                wrong++;
            }
        }
        if (args.length > 2) {
            System.out.println("answered " + ANSWERED);
            System.out.println("thrown " + THROWN);
        }
        System.out.println(wrong == 0 ? "all runs are as the model's" : wrong + " runs are not as the model's");
        if (wrong != 0) {
            System.exit(1);
        }
    }

    private boolean runWell(long seed) throws Exception {
        while (told.size() < MOST_CALLS) {
            if (random.nextInt(25) == 0) {
                isAsking = random.nextBoolean();
            }
            boolean isWell = random.nextInt(isAsking ? 400 : 50) == 0 ? typeAndRead() : callOnBoth(pick());
            if (!isWell) {
                System.out.println("seed " + seed + ", last calls:");
                told.subList(Math.max(0, told.size() - 40), told.size()).forEach(System.out::println);
                return false;
            }
        }
        return true;
    }

    /** Books are made larger or kept small by the style, so that all calls have something to do. */
    private Method pick() {
        return isAsking ? pickToAsk() : pickToBuild();
    }

    /** Most calls leave the book as it is, so that a plan stays. */
    private Method pickToAsk() {
        Method method = FACE.get(random.nextInt(FACE.size()));
        boolean isChange = "task set need dropNeed shorten guess undo ".contains(method.getName() + " ");
        boolean isText = "read erase type ".contains(method.getName() + " ");
        if ((isChange || isText) && random.nextInt(12) > 0) {
            return pickToAsk();
        }
        return model.plan == null && random.nextInt(8) == 0 ? face("plan") : method;
    }

    private Method pickToBuild() {
        int most = style == 0 ? 4 : style == 1 ? 6 : style == 2 ? 8 : style == 3 ? 13 : 20;
        if (model.tasks() < most && random.nextInt(6) == 0) {
            return face("task");
        }
        if (model.tasks() > 1 && random.nextInt(6) == 0) {
            return face("need");
        }
        if (random.nextInt(12) == 0) {
            return face(random.nextBoolean() ? "set" : "shorten");
        }
        Method method = FACE.get(random.nextInt(FACE.size()));
        boolean isGrowing = method.getName().equals("task") && model.tasks() >= most;
        boolean isShrinking = method.getName().equals("undo") || method.getName().equals("dropNeed");
        boolean isEmptying = method.getName().equals("read") && model.text.isEmpty();
        if ((isGrowing || isShrinking || isEmptying) && random.nextInt(4) > 0) {
            return pickToBuild();
        }
        return method;
    }

    private static Method face(String name) {
        for (Method method : FACE) {
            if (method.getName().equals(name)) {
                return method;
            }
        }
        throw new IllegalStateException(name);
    }

    private boolean typeAndRead() throws Exception {
        boolean isWell = callOnBoth(face("erase"));
        String text = randomText();
        for (int place = 0; place < text.length() && isWell && told.size() < MOST_CALLS - 1; place++) {
            isWell = callOnBoth(face("type"), text.charAt(place));
        }
        return isWell && callOnBoth(face("read"));
    }

    private String randomText() {
        StringBuilder text = new StringBuilder();
        int many = random.nextInt(8) == 0 ? 22 : 1 + random.nextInt(7);
        for (int task = 0; task < many; task++) {
            text.append(task == 0 ? "" : ";").append(number(1, 60));
            int needs = many > 20 ? 0 : Math.max(0, random.nextInt(5) - 2);
            for (int need = 0; need < needs && task > 0; need++) {
                text.append(need == 0 ? ':' : ',').append(number(0, task - 1));
                if (random.nextInt(3) == 0) {
                    text.append('+').append(number(0, 30));
                }
            }
        }
        if (random.nextInt(3) == 0) {
            int place = random.nextInt(text.length());
            text.setCharAt(place, "0123456789;:,+ x".charAt(random.nextInt(16)));
        }
        if (random.nextInt(6) == 0) {
            text.setLength(random.nextInt(text.length() + 1));
        }
        return text.substring(0, Math.min(80, text.length()));
    }

    private String number(int least, int greatest) {
        int number = random.nextInt(25) == 0 ? greatest + 1 : least + random.nextInt(greatest - least + 1);
        if (greatest == 60 && random.nextInt(3) > 0) {
            number = 1 + random.nextInt(9);
        }
        return (random.nextInt(20) == 0 ? "00" : "") + number;
    }

    private boolean callOnBoth(Method method, Object... fixed) throws Exception {
        Object[] arguments = fixed.length > 0 ? fixed : argumentsOf(method);
        String want = answer(MODEL.get(method.getName()), model, arguments);
        String got = answer(method, program, arguments);
        told.add("  " + method.getName() + Arrays.toString(arguments) + " -> " + got
                + (got.equals(want) ? "" : ", due is " + want));
        (want.startsWith("throws") ? THROWN : ANSWERED).merge(method.getName(), 1, Integer::sum);
        return got.equals(want);
    }

    private static String answer(Method method, Object on, Object[] arguments) throws Exception {
        try {
            return String.valueOf(method.invoke(on, arguments));
        } catch (InvocationTargetException thrown) {
            return "throws." + thrown.getCause().getClass().getName();
        }
    }

    private Object[] argumentsOf(Method method) {
        Class<?>[] types = method.getParameterTypes();
        Object[] arguments = new Object[types.length];
        for (int place = 0; place < types.length; place++) {
            if (types[place] == char.class) {
                arguments[place] = letterFor(method.getName(), place);
            } else if (types[place] == boolean.class) {
                arguments[place] = random.nextBoolean();
            } else {
                arguments[place] = numberFor(method.getName(), place, arguments);
            }
        }
        return arguments;
    }

    private char letterFor(String name, int place) {
        String letters = switch (name) {
            case "set", "of" -> "lsmcpzwd";
            case "needAt" -> "elg";
            case "slack" -> "tfid";
            case "anomaly" -> place == 0 ? "hsn" : "nlrst";
            case "listed" -> "nlrst";
            case "plan" -> place == 0 ? "nlrst" : "ps";
            default -> " 0123456789;:,+~";
        };
        if (random.nextInt(30) == 0) {
            return (char) random.nextInt(300);
        }
        return letters.charAt(random.nextInt(letters.length()));
    }

    private int between(int least, int greatest) {
        return least + random.nextInt(greatest - least + 1);
    }

    private int anyTask() {
        int many = model.tasks();
        return random.nextInt(25) == 0 || many == 0 ? between(-2, many + 1) : random.nextInt(many);
    }

    private int numberFor(String name, int place, Object[] arguments) {
        if (random.nextInt(60) == 0) {
            int[] wild = {Integer.MIN_VALUE, -1, 0, 1, 61, 168, 1000000, Integer.MAX_VALUE};
            return wild[random.nextInt(wild.length)];
        }
        if (place == 0 && "set of earliest latest slack rest clockBegin clockEnd list planBegin planHand shorten guess"
                .concat(" oddsCritical movedBy need ring ").contains(name + " ")) {
            return anyTask();
        }
        int shortest = style == 4 ? 12 : 6;
        int end = model.end();
        switch (name) {
            case "task":
                return random.nextInt(8) == 0 ? between(0, 61) : between(1, shortest);
            case "set":
                return valueFor((Character) arguments[1]);
            case "need":
                return place == 1 ? laterFor((Integer) arguments[0]) : isPure || random.nextInt(3) > 0 ? 0 : random.nextInt(4) > 0 ? between(0, 3) : between(-1, 31);
            case "ring":
                return anyTask();
            case "leastCost":
                return random.nextInt(6) == 0 ? between(-1, end + 1) : between(model.leastEnd(), end);
            case "index":
                return random.nextInt(6) == 0 ? between(-1, end + 1) : between(end / 2, end + 1);
            case "dropNeed":
            case "needAt":
                return between(random.nextInt(9) == 0 ? -1 : 0, Math.max(0, model.needs() - random.nextInt(2)));
            case "signAt":
                return between(-1, model.text.length());
            case "chainAt":
            case "proofAt":
            case "listed":
                return between(random.nextInt(9) == 0 ? -1 : 0, Math.min(5, model.tasks()));
            case "hours":
                return place == 0 ? between(0, random.nextInt(9) == 0 ? 4 : 3)
                        : place == 1 ? between(random.nextInt(9) == 0 ? -1 : 0, 168)
                        : between(Math.min(168, Math.max(0, (Integer) arguments[1])), 169);
            case "isWork":
                return place == 0 ? between(0, random.nextInt(9) == 0 ? 4 : 3) : between(-1, 400);
            case "hands":
                return place == 0 ? between(0, random.nextInt(9) == 0 ? 3 : 2) : between(0, 6);
            case "busy":
                return place == 0 ? between(0, random.nextInt(9) == 0 ? 3 : 2) : between(-1, end + 3);
            case "best":
            case "bestByLists":
                return between(0, 5);
            case "shorten":
                return place == 1 ? between(0, random.nextInt(3) == 0 ? 6 : 2) : between(0, random.nextInt(9) == 0 ? 100 : 9);
            case "guess":
                return guessFor(place, (Integer) arguments[0]);
            default:
                return between(-1, end + 2);
        }
    }

    /** Mostly one of a greater number, as else many needs would close rings. */
    private int laterFor(int earlier) {
        boolean hasLater = earlier >= 0 && earlier < model.tasks() - 1;
        return hasLater && random.nextInt(5) > 0 ? between(earlier + 1, model.tasks() - 1) : anyTask();
    }

    private int valueFor(char letter) {
        int row = Model.LETTERS.indexOf(letter);
        if (isPure && row >= 0 && (letter == 's' || letter == 'm')) {
            return Model.LEAST[row];
        }
        if (row < 0 || random.nextInt(20) == 0) {
            return between(-2, 102);
        }
        if (letter == 'l') {
            return between(1, 8);
        }
        boolean isKeptLow = (letter == 's' || letter == 'm') && random.nextInt(3) > 0;
        return isKeptLow ? between(Model.LEAST[row], 0) : between(Model.LEAST[row], Model.GREATEST[row]);
    }

    private int guessFor(int place, int task) {
        int length = task >= 0 && task < model.tasks() ? model.of(task, 'l') : 5;
        return place == 1 ? between(Math.max(0, length - 4), length) : between(length, Math.min(61, length + 4));
    }
}

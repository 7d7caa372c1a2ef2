import java.lang.reflect.InvocationTargetException;
import java.lang.reflect.Method;
import java.util.ArrayList;
import java.util.Comparator;
import java.util.HashSet;
import java.util.List;
import java.util.Random;
import java.util.Set;

/** Runs of 512 calls, the same every time, on a SprintBoard and a PlainBoard, whose answers are to be the same. */
public final class RandomRunsTest {
    private static final int RUNS = 3000;
    private static final int CALLS = 512;
    private static final int[] ESTIMATES = {1, 2, 3, 5, 8, 13};
    private static final int[] ODD_NUMBERS = {Integer.MIN_VALUE, -1, 0, 4, 16, 17, 32, 99, Integer.MAX_VALUE};
    private static final Set<String> MODIFICATIONS = Set.of("addStory", "addDeveloper", "block", "unblock", "plan",
        "unplan", "startSprint", "assign", "unassign", "reestimate", "passDay", "endSprint");
    private static final String[] PIECES = {"story 1", "story 5", "story 13", "dev 2", "dev 4", "block 1 0",
        "block 2 01", "block 3 2", "unblock 1 0", "plan 0", "plan 1", "plan 2", "unplan 0", "unplan 1", "start 3",
        "start 10", "assign 0 0", "assign 1 1", "assign 2 2", "free 0", "points 0 8", "points 1 13", "day", "day",
        "end", "plan", "day ", ";", " ", "x", "unb", "po", "st", "assign 1 12", "story 123", "dev 10", "D"};

    private static final Checks checks = new Checks();

    private final Random random;
    private final int run;
    private final SprintBoard program = new SprintBoard();
    private final PlainBoard plain = new PlainBoard();
    private final List<String> calls = new ArrayList<>();
    private final Set<String> answered;
    private String toType = "";

    private RandomRunsTest(int run, Set<String> answered) {
        this.run = run;
        this.answered = answered;
        random = new Random(run);
    }

    public static void main(String[] arguments) throws ReflectiveOperationException {
        List<Method> methods = face();
        Set<String> answered = new HashSet<>();
        for (int run = 0; run < RUNS; run++) {
            if (!new RandomRunsTest(run, answered).agrees(methods)) {
                break;
            }
        }
        for (Method method : methods) {
            checks.same("some call of " + method.getName() + " answers", true, answered.contains(method.getName()));
        }
        checks.end();
    }

    private static List<Method> face() {
        List<Method> methods = new ArrayList<>(List.of(SprintBoard.class.getDeclaredMethods()));
        methods.removeIf(method -> !java.lang.reflect.Modifier.isPublic(method.getModifiers()));
        methods.sort(Comparator.comparing(Method::getName));
        return methods;
    }

    private boolean agrees(List<Method> methods) throws ReflectiveOperationException {
        List<Method> modifications = new ArrayList<>(methods);
        modifications.removeIf(method -> !MODIFICATIONS.contains(method.getName()));
        for (int call = 0; call < CALLS; call++) {
            List<Method> among = random.nextInt(3) == 0 ? modifications : methods;
            Method method = among.get(random.nextInt(among.size()));
            if (toType.isEmpty() ? random.nextInt(40) == 0 : random.nextInt(5) > 0) {
                method = typing();
            }
            if (method.getName().equals("endSprint") && random.nextInt(4) > 0) {
                method = SprintBoard.class.getMethod("passDay");
            }
            if (!agrees(method, argumentsFor(method))) {
                return false;
            }
        }
        return true;
    }

    private Method typing() throws ReflectiveOperationException {
        if (toType.isEmpty()) {
            toType = someText() + "\n";
        }
        boolean typed = toType.equals("\n");
        return typed ? SprintBoard.class.getMethod("execute") : SprintBoard.class.getMethod("type", char.class);
    }

    private String someText() {
        StringBuilder text = new StringBuilder();
        int pieces = 1 + random.nextInt(5);
        for (int piece = 0; piece < pieces; piece++) {
            text.append(piece > 0 && random.nextInt(12) > 0 ? ";" : "");
            int most = random.nextInt(8) == 0 ? PIECES.length : 25;
            text.append(PIECES[random.nextInt(most)]);
        }
        return text.substring(0, Math.min(text.length(), 60));
    }

    private boolean agrees(Method method, Object[] arguments) throws ReflectiveOperationException {
        Method other = PlainBoard.class.getMethod(method.getName(), method.getParameterTypes());
        String due = answer(other, plain, arguments);
        String answer = answer(method, program, arguments);
        if (!due.startsWith("throws")) {
            answered.add(method.getName());
        }
        calls.add(method.getName() + List.of(arguments) + " -> " + due);
        checks.same("run " + run + ", call " + calls.size() + ", " + method.getName() + List.of(arguments), due, answer);
        if (!due.equals(answer)) {
            System.out.println(String.join("\n", calls));
        }
        return due.equals(answer);
    }

    private static String answer(Method method, Object board, Object[] arguments) throws IllegalAccessException {
        try {
            return String.valueOf(method.invoke(board, arguments));
        } catch (InvocationTargetException thrown) {
            return "throws " + thrown.getCause().getClass().getSimpleName();
        }
    }

    private Object[] argumentsFor(Method method) {
        if (method.getName().equals("execute")) {
            toType = "";
        }
        Class<?>[] types = method.getParameterTypes();
        Object[] arguments = new Object[types.length];
        for (int index = 0; index < types.length; index++) {
            if (types[index] == char.class) {
                arguments[index] = nextCharacter();
            } else {
                arguments[index] = nextNumber(method.getName(), index);
            }
        }
        return arguments;
    }

    private char nextCharacter() {
        if (toType.isEmpty() || random.nextInt(200) == 0) {
            return (char) random.nextInt(140);
        }
        char character = toType.charAt(0);
        if (character != '\n') {
            toType = toType.substring(1);
        }
        return character;
    }

    private int nextNumber(String method, int index) {
        if (random.nextInt(20) == 0) {
            return ODD_NUMBERS[random.nextInt(ODD_NUMBERS.length)];
        }
        boolean points = method.equals("addStory") || method.equals("reestimate") && index == 1;
        if (points) {
            return ESTIMATES[random.nextInt(ESTIMATES.length)];
        }
        if (method.equals("startSprint")) {
            return 1 + random.nextInt(11);
        }
        if (method.equals("addDeveloper")) {
            return 1 + random.nextInt(4);
        }
        int developers = plain.developerCount();
        boolean developer = method.equals("assign") && index == 1 || method.equals("unassign");
        return random.nextInt(1 + (developer ? developers : Math.min(plain.storyCount(), 3 + run % 14)));
    }
}

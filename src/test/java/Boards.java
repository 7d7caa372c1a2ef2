import java.lang.reflect.InvocationTargetException;
import java.lang.reflect.Method;
import java.lang.reflect.Modifier;
import java.util.Arrays;
import java.util.Comparator;
import java.util.function.Consumer;
import java.util.function.Function;
import java.util.function.Supplier;
import java.util.stream.IntStream;

/** What the tests of a SprintBoard share: boards, pictures of them, and checks. */
abstract class Boards {
    static final Class<? extends RuntimeException> INDEX = IndexOutOfBoundsException.class;
    static final Class<? extends RuntimeException> ARGUMENT = IllegalArgumentException.class;
    static final Class<? extends RuntimeException> STATE = IllegalStateException.class;
    static final Class<? extends RuntimeException> SUPPORT = UnsupportedOperationException.class;
    static final Class<? extends RuntimeException> FOUND = java.util.NoSuchElementException.class;
    static final Class<? extends RuntimeException> ARITHMETIC = ArithmeticException.class;

    static final int[] ESTIMATES = {1, 2, 3, 5, 8, 13};
    static final int[] NO_ESTIMATES =
        {Integer.MIN_VALUE, -13, -1, 0, 4, 6, 7, 9, 10, 11, 12, 14, 21, 257, 65541, Integer.MAX_VALUE};

    static final Checks checks = new Checks();

    private static String sentence = "";

    interface Call {
        Object answer();
    }

    /** Runs every static method of a test class that takes nothing and answers nothing; so none is forgotten. */
    static void runAll(Class<?> tests) throws IllegalAccessException {
        Method[] methods = tests.getDeclaredMethods();
        Arrays.sort(methods, Comparator.comparing(Method::getName));
        for (Method method : methods) {
            boolean isTest = Modifier.isStatic(method.getModifiers()) && method.getReturnType() == void.class
                && method.getParameterCount() == 0 && !method.isSynthetic();
            if (isTest) {
                sentence = "";
                runOne(method);
            }
        }
        checks.end();
    }

    private static void runOne(Method method) throws IllegalAccessException {
        try {
            method.invoke(null);
            checks.same(method.getName() + " names its sentence", false, sentence.isEmpty());
        } catch (InvocationTargetException thrown) {
            checks.same(sentence + " | " + method.getName(), "an end", thrown.getCause().toString());
        }
    }

    /** The promise and the words of the document that the checks from here on are about. */
    static void sentence(String words) {
        sentence = words + " | ";
    }

    static void is(String what, Object due, Object answer) {
        checks.same(sentence + what, due, answer);
    }

    static void fails(String what, Class<? extends RuntimeException> due, Call call) {
        checks.same(sentence + what, due, outcome(call));
    }

    /** The call's answer, or the class of the exception that it throws. */
    static Object outcome(Call call) {
        try {
            return call.answer();
        } catch (RuntimeException thrown) {
            return thrown.getClass();
        }
    }

    /** The call throws what is due, and nothing tells the board afterwards from one without the call. */
    static void refuses(String what, Class<? extends RuntimeException> due, Supplier<SprintBoard> made,
            Function<SprintBoard, Object> call) {
        SprintBoard x = made.get();
        SprintBoard untouched = made.get();
        fails(what, due, () -> call.apply(x));
        is(what + ", then the picture", picture(untouched), picture(x));
        is(what + ", then the buffer", outcome(() -> untouched.type('d')), outcome(() -> x.type('d')));
        is(what + ", then what can be undone", undone(untouched), undone(x));
        is(what + ", then the snapshot", restored(untouched), restored(x));
    }

    /** The answers of undo until it refuses, and the state then. */
    static String undone(SprintBoard x) {
        StringBuilder told = new StringBuilder();
        Object answer = outcome(x::undo);
        for (int count = 0; count < 10 && answer != STATE; count++) {
            told.append(answer).append(' ');
            answer = outcome(x::undo);
        }
        return told + state(x);
    }

    private static String restored(SprintBoard x) {
        Object answer = outcome(x::restore);
        return answer instanceof Class ? answer.toString() : answer + " " + state(x);
    }

    static String picture(SprintBoard x) {
        return state(x) + "; line " + line(x) + "; error " + outcome(x::errorPosition) + "; failed "
            + outcome(x::failedCommand);
    }

    /**
     * What the questions tell of the state that is undone, saved and restored. It asks some 130 questions at most, so
     * that a test may ask it three times within the 512 calls that an object is used for.
     */
    static String state(SprintBoard x) {
        StringBuilder told = new StringBuilder();
        int stories = x.storyCount();
        for (int story = 0; story < stories; story++) {
            told.append(x.leftOf(story)).append('/').append(x.estimateOf(story)).append(x.isPlanned(story) ? "p" : "")
                .append('-').append(x.openBlockers(story)).append(' ');
        }
        for (int story = 0; story < Math.min(stories, 4); story++) {
            for (int blocker = 0; blocker < Math.min(stories, 4); blocker++) {
                told.append(x.isBlocker(story, blocker) ? '1' : '0');
            }
        }
        int developers = x.developerCount();
        for (int developer = 0; developer < developers; developer++) {
            int number = developer;
            told.append(" +").append(x.speedOf(developer)).append('@').append(outcome(() -> x.storyOf(number)));
        }
        told.append(row(x::burnDown)).append(row(x::idealBurnDown)).append(row(x::velocityOf));
        told.append(" active ").append(x.isActive()).append(outcome(x::daysPassed)).append(outcome(x::scopeChange));
        told.append(" scope ").append(x.scope()).append('=').append(x.worked()).append('+').append(x.left());
        return told.append(" ended ").append(x.sprintCount()).toString();
    }

    private static String row(Function<Integer, Object> question) {
        StringBuilder told = new StringBuilder(" [");
        for (int index = 0; index < 12; index++) {
            int number = index;
            Object answer = outcome(() -> question.apply(number));
            if (answer instanceof Class) {
                break;
            }
            told.append(answer).append(' ');
        }
        return told.append(']').toString();
    }

    static String line(SprintBoard x) {
        StringBuilder line = new StringBuilder();
        for (int index = 0; index < 60; index++) {
            int number = index;
            Object sign = outcome(() -> x.lineAt(number));
            if (sign instanceof Class) {
                break;
            }
            line.append(sign);
        }
        return line.toString();
    }

    /** Numbers that nothing bears if there are so many; some are those of a real one but for a wrap-around. */
    static int[] numbersOutside(int count) {
        return IntStream.of(Integer.MIN_VALUE, -65536, -32, -1, count, count + 1, 16, 32, 33, 64, 256, 65536,
            Integer.MAX_VALUE).filter(number -> number < 0 || number >= count).toArray();
    }

    static SprintBoard board(int... estimates) {
        SprintBoard x = new SprintBoard();
        for (int points : estimates) {
            x.addStory(points);
        }
        return x;
    }

    static SprintBoard stories(int count) {
        SprintBoard x = new SprintBoard();
        for (int story = 0; story < count; story++) {
            x.addStory(1);
        }
        return x;
    }

    static SprintBoard full() {
        return stories(16);
    }

    /** Sixteen stories, each blocked by the next one: 0 by 1, and so on until 14 by 15. */
    static SprintBoard chain() {
        SprintBoard x = full();
        for (int story = 0; story < 15; story++) {
            x.block(story, story + 1);
        }
        return x;
    }

    static SprintBoard developers(int... speeds) {
        SprintBoard x = new SprintBoard();
        for (int speed : speeds) {
            x.addDeveloper(speed);
        }
        return x;
    }

    /** A board in whose sprint of 10 days its only developer works on its only story. */
    static SprintBoard working(int points, int speed) {
        SprintBoard x = board(points);
        x.addDeveloper(speed);
        x.plan(0);
        x.startSprint(10);
        x.assign(0, 0);
        return x;
    }

    /** A board in whose sprint each story is planned and each developer is assigned to the story of the same number. */
    static SprintBoard allWorking(int days, int[] estimates, int... speeds) {
        SprintBoard x = board(estimates);
        for (int story = 0; story < estimates.length; story++) {
            x.plan(story);
        }
        x.startSprint(days);
        for (int developer = 0; developer < speeds.length; developer++) {
            x.addDeveloper(speeds[developer]);
            x.assign(developer, developer);
        }
        return x;
    }

    /**
     * Four stories and three developers on day 1 of 3 of the second sprint, with a snapshot, a line, a text, an error
     * position, a failed command, and more modifications than can be undone. Story 0 is worked on, 1 is done, 2 is
     * blocked by 0 and has a developer, and 3 is not planned; developer 2 is not assigned.
     */
    static SprintBoard busy() {
        SprintBoard x = board(8, 3, 5);
        x.addDeveloper(3);
        finish(x, 1);
        x.save();
        x.addStory(13);
        x.addDeveloper(1);
        x.block(2, 0);
        x.plan(0);
        x.plan(2);
        x.startSprint(3);
        x.assign(0, 0);
        x.assign(2, 1);
        x.passDay();
        x.addDeveloper(2);
        outcome(() -> run(x, "day;dax"));
        outcome(() -> run(x, "day;story 4"));
        x.writeStory(2);
        type(x, "da");
        return x;
    }

    /** Lets a story of at most 40 points be done in a sprint of its own, with developer 0. */
    static void finish(SprintBoard x, int story) {
        if (x.isActive()) {
            x.endSprint();
        }
        if (x.developerCount() == 0) {
            x.addDeveloper(4);
        }
        x.plan(story);
        x.startSprint(10);
        x.assign(story, 0);
        for (int day = 0; day < 10 && !x.isDone(story); day++) {
            x.passDay();
        }
        x.endSprint();
    }

    static void pass(SprintBoard x, int days) {
        for (int day = 0; day < days; day++) {
            x.passDay();
        }
    }

    static void type(SprintBoard x, String text) {
        for (int index = 0; index < text.length(); index++) {
            x.type(text.charAt(index));
        }
    }

    static int run(SprintBoard x, String text) {
        type(x, text);
        return x.execute();
    }

    static SprintBoard after(Supplier<SprintBoard> made, Consumer<SprintBoard> change) {
        SprintBoard x = made.get();
        change.accept(x);
        return x;
    }
}

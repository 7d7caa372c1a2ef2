import java.lang.reflect.Constructor;
import java.lang.reflect.Field;
import java.lang.reflect.Member;
import java.lang.reflect.Method;
import java.lang.reflect.Modifier;
import java.util.ArrayList;
import java.util.Arrays;
import java.util.List;
import java.util.Set;
import java.util.TreeSet;
import java.util.stream.Collectors;
import java.util.stream.Stream;

/** The public face, as the document writes it, and nothing else that others could call. */
public final class FaceTest extends Boards {
    private static final String FACE = """
        public int addStory(int) throws IllegalArgumentException, IllegalStateException
        public int reestimate(int, int) throws IndexOutOfBoundsException, IllegalArgumentException, IllegalStateException
        public int block(int, int) throws IndexOutOfBoundsException, IllegalArgumentException, IllegalStateException, \
        UnsupportedOperationException
        public int unblock(int, int) throws IndexOutOfBoundsException, IllegalStateException
        public int storyCount()
        public int estimateOf(int) throws IndexOutOfBoundsException
        public int leftOf(int) throws IndexOutOfBoundsException
        public int workedOn(int) throws IndexOutOfBoundsException
        public boolean isDone(int) throws IndexOutOfBoundsException
        public boolean isBlocked(int) throws IndexOutOfBoundsException
        public int openBlockers(int) throws IndexOutOfBoundsException
        public boolean isBlocker(int, int) throws IndexOutOfBoundsException
        public boolean dependsOn(int, int) throws IndexOutOfBoundsException
        public boolean dependsOnByClosure(int, int) throws IndexOutOfBoundsException
        public int longestChain(int) throws IndexOutOfBoundsException
        public int storyInOrder(int) throws NoSuchElementException
        public int addDeveloper(int) throws IllegalArgumentException, IllegalStateException
        public boolean assign(int, int) throws IndexOutOfBoundsException, UnsupportedOperationException, \
        IllegalStateException
        public int unassign(int) throws IndexOutOfBoundsException, IllegalStateException
        public int developerCount()
        public int speedOf(int) throws IndexOutOfBoundsException
        public int storyOf(int) throws IndexOutOfBoundsException, NoSuchElementException
        public int developerOf(int) throws IndexOutOfBoundsException, NoSuchElementException
        public int plan(int) throws IndexOutOfBoundsException, IllegalStateException
        public int unplan(int) throws IndexOutOfBoundsException, IllegalStateException
        public int startSprint(int) throws IllegalArgumentException, IllegalStateException
        public int passDay() throws IllegalStateException
        public int endSprint() throws IllegalStateException
        public boolean isActive()
        public int sprintCount()
        public int daysPassed() throws NoSuchElementException
        public boolean isPlanned(int) throws IndexOutOfBoundsException
        public int scope()
        public int left()
        public int worked()
        public int scopeChange() throws NoSuchElementException
        public int burnDown(int) throws NoSuchElementException
        public float idealBurnDown(int) throws NoSuchElementException
        public int velocityOf(int) throws IndexOutOfBoundsException
        public double meanVelocity() throws ArithmeticException
        public int finishDay(int) throws IndexOutOfBoundsException, NoSuchElementException
        public int finishDayByRecursion(int) throws IndexOutOfBoundsException, NoSuchElementException
        public int writeStory(int) throws IndexOutOfBoundsException
        public int writeBurnDown()
        public char lineAt(int) throws IndexOutOfBoundsException
        public boolean isConsistent()
        public int type(char) throws IllegalArgumentException, IllegalStateException
        public int execute() throws IllegalArgumentException, IllegalStateException
        public int errorPosition() throws NoSuchElementException
        public int failedCommand() throws NoSuchElementException
        public int undo() throws IllegalStateException
        public int save()
        public int restore() throws IllegalStateException
        """;

    private FaceTest() {
    }

    public static void main(String[] arguments) throws IllegalAccessException {
        runAll(FaceTest.class);
    }

    static void theClass() {
        sentence("The public face: public final class SprintBoard");
        is("its kind", "public final", Modifier.toString(SprintBoard.class.getModifiers()));
        is("no package", "", SprintBoard.class.getPackageName());
        is("no class above it", Object.class, SprintBoard.class.getSuperclass());
        is("no interfaces", 0, SprintBoard.class.getInterfaces().length);
    }

    static void theConstructor() {
        sentence("The public face: public SprintBoard()");
        Constructor<?>[] constructors = SprintBoard.class.getDeclaredConstructors();
        is("how many", 1, constructors.length);
        is("the only one", "public SprintBoard()", constructors[0].toGenericString());
    }

    static void theMethods() {
        sentence("The public face");
        Set<String> due = new TreeSet<>(FACE.lines().toList());
        Set<String> found = others(SprintBoard.class.getDeclaredMethods()).map(method -> toldOf((Method) method))
            .collect(Collectors.toCollection(TreeSet::new));
        is("methods of the document", 53, due.size());
        List<String> missing = new ArrayList<>(due);
        missing.removeAll(found);
        is("missing", List.of(), missing);
        found.removeAll(due);
        is("not in the document", Set.of(), found);
    }

    static void whatIsNotOfTheFace() {
        sentence("LANGUAGE.md, rule 1: no other public, protected or package-visible member");
        is("fields", 0L, others(SprintBoard.class.getDeclaredFields()).count());
        for (Class<?> inside : SprintBoard.class.getDeclaredClasses()) {
            int kind = inside.getModifiers();
            is(inside.getName() + " is static", true, Modifier.isStatic(kind));
            is(inside.getName() + " is hidden", false, Modifier.isPublic(kind) || Modifier.isProtected(kind));
        }
    }

    static void namesOfPrivateMethods() {
        sentence("LANGUAGE.md, rule 1: No private method bears the name of a public one");
        Set<String> face = others(SprintBoard.class.getDeclaredMethods()).map(Member::getName)
            .collect(Collectors.toSet());
        List<Method> methods = new ArrayList<>(List.of(SprintBoard.class.getDeclaredMethods()));
        for (Class<?> inside : SprintBoard.class.getDeclaredClasses()) {
            methods.addAll(List.of(inside.getDeclaredMethods()));
        }
        for (Method method : methods) {
            boolean isOfTheFace = Modifier.isPublic(method.getModifiers());
            is(method.getName(), isOfTheFace, face.contains(method.getName()));
        }
    }

    static void fieldsThatAreShared() {
        sentence("LANGUAGE.md, rule 5: Static fields are final");
        List<Field> fields = new ArrayList<>(List.of(SprintBoard.class.getDeclaredFields()));
        for (Class<?> inside : SprintBoard.class.getDeclaredClasses()) {
            fields.addAll(List.of(inside.getDeclaredFields()));
        }
        for (Field field : fields) {
            int kind = field.getModifiers();
            is(field.getName(), true, !Modifier.isStatic(kind) || Modifier.isFinal(kind));
        }
    }

    /** Those that others than the class itself can see. */
    private static Stream<Member> others(Member[] members) {
        return Arrays.stream(members).filter(member -> !Modifier.isPrivate(member.getModifiers()));
    }

    private static String toldOf(Method method) {
        String exceptions = names(method.getExceptionTypes());
        return Modifier.toString(method.getModifiers()) + " " + method.getReturnType().getSimpleName() + " "
            + method.getName() + "(" + names(method.getParameterTypes()) + ")"
            + (exceptions.isEmpty() ? "" : " throws " + exceptions);
    }

    private static String names(Class<?>[] types) {
        return Arrays.stream(types).map(Class::getSimpleName).collect(Collectors.joining(", "));
    }
}

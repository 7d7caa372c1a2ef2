import java.util.ArrayDeque;
import java.util.ArrayList;
import java.util.Deque;
import java.util.HashSet;
import java.util.List;
import java.util.NoSuchElementException;
import java.util.Set;
import java.util.TreeSet;
import java.util.regex.Matcher;
import java.util.regex.Pattern;

/**
 * The document read a second time, with the Java library and other means than the program's: sets and lists, whole
 * copies, a regular expression for the grammar, and no answer shared between the two ways that the document asks for.
 */
public final class PlainBoard {
    private static final String N = " ([0-9]{1,2})";
    private static final String D = " ([0-9])";
    private static final String COMMAND = "(?:story" + N + "|dev" + D + "|block" + N + N + "|unblock" + N + N
        + "|plan" + N + "|unplan" + N + "|start" + N + "|assign" + N + D + "|free" + D + "|points" + N + N
        + "|day|end)";
    private static final Pattern TEXT = Pattern.compile(COMMAND + "(?:;" + COMMAND + ")*");

    private State state = new State();
    private State snapshot;
    private final Deque<State> past = new ArrayDeque<>();
    private String line = "";
    private String buffer = "";
    private Integer errorPosition;
    private Integer failedCommand;

    private static final class Story {
        int estimate;
        int left;
        final Set<Integer> blockers = new TreeSet<>();
        boolean planned;
        Integer developer;
    }

    private static final class State {
        final List<Story> stories = new ArrayList<>();
        final List<Integer> speeds = new ArrayList<>();
        final List<Integer> velocities = new ArrayList<>();
        List<Integer> burnDown;
        int length;
        int startScope;

        State copy() {
            State copy = new State();
            for (Story story : stories) {
                Story other = new Story();
                other.estimate = story.estimate;
                other.left = story.left;
                other.blockers.addAll(story.blockers);
                other.planned = story.planned;
                other.developer = story.developer;
                copy.stories.add(other);
            }
            copy.speeds.addAll(speeds);
            copy.velocities.addAll(velocities);
            copy.burnDown = burnDown == null ? null : new ArrayList<>(burnDown);
            copy.length = length;
            copy.startScope = startScope;
            return copy;
        }

        boolean blocked(Story story) {
            return story.blockers.stream().anyMatch(blocker -> stories.get(blocker).left > 0);
        }

        int letDayPass() {
            List<Story> workable = new ArrayList<>();
            for (Story story : stories) {
                if (story.developer != null && !blocked(story)) {
                    workable.add(story);
                }
            }
            int done = 0;
            for (Story story : workable) {
                story.left -= speeds.get(story.developer);
                if (story.left <= 0) {
                    story.left = 0;
                    story.developer = null;
                    done++;
                }
            }
            return done;
        }
    }

    private Story story(int number) {
        if (number < 0 || number >= state.stories.size()) {
            throw new IndexOutOfBoundsException();
        }
        return state.stories.get(number);
    }

    private int speed(int developer) {
        if (developer < 0 || developer >= state.speeds.size()) {
            throw new IndexOutOfBoundsException();
        }
        return state.speeds.get(developer);
    }

    private static void estimate(int points) {
        if (!List.of(1, 2, 3, 5, 8, 13).contains(points)) {
            throw new IllegalArgumentException();
        }
    }

    private static void argument(boolean fits) {
        if (!fits) {
            throw new IllegalArgumentException();
        }
    }

    private static void state(boolean allows) {
        if (!allows) {
            throw new IllegalStateException();
        }
    }

    private void sprint() {
        if (state.burnDown == null) {
            throw new NoSuchElementException();
        }
    }

    private void remember() {
        past.addLast(state.copy());
        if (past.size() > 8) {
            past.removeFirst();
        }
    }

    public int addStory(int points) {
        estimate(points);
        state(state.stories.size() < 16);
        remember();
        Story story = new Story();
        story.estimate = points;
        story.left = points;
        state.stories.add(story);
        return state.stories.size() - 1;
    }

    public int reestimate(int number, int points) {
        Story story = story(number);
        estimate(points);
        state(story.left > 0);
        remember();
        story = story(number);
        int worked = story.estimate - story.left;
        if (worked > points) {
            worked = points;
        }
        story.estimate = points;
        story.left = points - worked;
        if (story.left == 0) {
            story.developer = null;
        }
        return story.left;
    }

    public int block(int number, int blocker) {
        Story story = story(number);
        story(blocker);
        argument(number != blocker);
        state(!story.blockers.contains(blocker) && story.left > 0);
        if (ancestors(blocker).contains(number)) {
            throw new UnsupportedOperationException();
        }
        remember();
        story(number).blockers.add(blocker);
        return story(number).blockers.size();
    }

    public int unblock(int number, int blocker) {
        Story story = story(number);
        story(blocker);
        state(story.blockers.contains(blocker));
        remember();
        story(number).blockers.remove(blocker);
        return story(number).blockers.size();
    }

    private Set<Integer> ancestors(int number) {
        Set<Integer> found = new HashSet<>();
        Deque<Integer> open = new ArrayDeque<>(story(number).blockers);
        while (!open.isEmpty()) {
            int next = open.pop();
            if (found.add(next)) {
                open.addAll(story(next).blockers);
            }
        }
        return found;
    }

    public int storyCount() {
        return state.stories.size();
    }

    public int estimateOf(int number) {
        return story(number).estimate;
    }

    public int leftOf(int number) {
        return story(number).left;
    }

    public int workedOn(int number) {
        return story(number).estimate - story(number).left;
    }

    public boolean isDone(int number) {
        return story(number).left == 0;
    }

    public boolean isBlocked(int number) {
        return state.blocked(story(number));
    }

    public int openBlockers(int number) {
        return (int) story(number).blockers.stream().filter(blocker -> story(blocker).left > 0).count();
    }

    public boolean isBlocker(int number, int blocker) {
        story(blocker);
        return story(number).blockers.contains(blocker);
    }

    public boolean dependsOn(int number, int other) {
        story(other);
        return ancestors(number).contains(other);
    }

    public boolean dependsOnByClosure(int number, int other) {
        return dependsOn(number, other);
    }

    public int longestChain(int number) {
        int longest = 0;
        for (int blocker : story(number).blockers) {
            longest = Math.max(longest, longestChain(blocker));
        }
        return longest + 1;
    }

    public int storyInOrder(int position) {
        List<Integer> order = new ArrayList<>();
        for (int round = 0; round < storyCount(); round++) {
            for (int number = 0; number < storyCount(); number++) {
                if (!order.contains(number) && order.containsAll(story(number).blockers)) {
                    order.add(number);
                    break;
                }
            }
        }
        if (position < 0 || position >= order.size()) {
            throw new NoSuchElementException();
        }
        return order.get(position);
    }

    public int addDeveloper(int speed) {
        argument(speed >= 1 && speed <= 4);
        state(state.speeds.size() < 4);
        remember();
        state.speeds.add(speed);
        return state.speeds.size() - 1;
    }

    private Integer work(int developer) {
        for (int number = 0; number < storyCount(); number++) {
            Integer assigned = story(number).developer;
            if (assigned != null && assigned == developer) {
                return number;
            }
        }
        return null;
    }

    public boolean assign(int number, int developer) {
        Story story = story(number);
        speed(developer);
        if (state.burnDown == null) {
            throw new UnsupportedOperationException();
        }
        state(story.planned && story.left > 0 && story.developer == null && work(developer) == null);
        remember();
        story(number).developer = developer;
        return isBlocked(number);
    }

    public int unassign(int developer) {
        speed(developer);
        Integer number = work(developer);
        state(number != null);
        remember();
        story(number).developer = null;
        return number;
    }

    public int developerCount() {
        return state.speeds.size();
    }

    public int speedOf(int developer) {
        return speed(developer);
    }

    public int storyOf(int developer) {
        speed(developer);
        Integer number = work(developer);
        if (number == null) {
            throw new NoSuchElementException();
        }
        return number;
    }

    public int developerOf(int number) {
        Integer developer = story(number).developer;
        if (developer == null) {
            throw new NoSuchElementException();
        }
        return developer;
    }

    public int plan(int number) {
        state(!story(number).planned && story(number).left > 0);
        remember();
        story(number).planned = true;
        return scope();
    }

    public int unplan(int number) {
        state(story(number).planned && story(number).developer == null);
        remember();
        story(number).planned = false;
        return scope();
    }

    public int startSprint(int days) {
        argument(days >= 1 && days <= 10);
        state(state.burnDown == null && state.velocities.size() < 9);
        remember();
        state.burnDown = new ArrayList<>(List.of(left()));
        state.length = days;
        state.startScope = scope();
        return state.velocities.size();
    }

    public int passDay() {
        state(state.burnDown != null && state.burnDown.size() - 1 < state.length);
        remember();
        int done = state.letDayPass();
        state.burnDown.add(left());
        return done;
    }

    public int endSprint() {
        state(state.burnDown != null);
        remember();
        int velocity = 0;
        for (Story story : state.stories) {
            if (story.planned && story.left == 0) {
                velocity += story.estimate;
            }
            story.planned = false;
            story.developer = null;
        }
        state.velocities.add(velocity);
        state.burnDown = null;
        return velocity;
    }

    public boolean isActive() {
        return state.burnDown != null;
    }

    public int sprintCount() {
        return state.velocities.size();
    }

    public int daysPassed() {
        sprint();
        return state.burnDown.size() - 1;
    }

    public boolean isPlanned(int number) {
        return story(number).planned;
    }

    public int scope() {
        return state.stories.stream().filter(story -> story.planned).mapToInt(story -> story.estimate).sum();
    }

    public int left() {
        return state.stories.stream().filter(story -> story.planned).mapToInt(story -> story.left).sum();
    }

    public int worked() {
        return scope() - left();
    }

    public int scopeChange() {
        sprint();
        return scope() - state.startScope;
    }

    public int burnDown(int day) {
        sprint();
        if (day < 0 || day >= state.burnDown.size()) {
            throw new NoSuchElementException();
        }
        return state.burnDown.get(day);
    }

    public float idealBurnDown(int day) {
        sprint();
        if (day < 0 || day > state.length) {
            throw new NoSuchElementException();
        }
        float start = state.burnDown.get(0);
        float days = state.length - day;
        float length = state.length;
        return start * days / length;
    }

    public int velocityOf(int sprint) {
        if (sprint < 0 || sprint >= state.velocities.size()) {
            throw new IndexOutOfBoundsException();
        }
        return state.velocities.get(sprint);
    }

    public double meanVelocity() {
        if (state.velocities.isEmpty()) {
            throw new ArithmeticException();
        }
        double sum = 0;
        for (int velocity : state.velocities) {
            sum += velocity;
        }
        return sum / state.velocities.size();
    }

    public int finishDay(int number) {
        story(number);
        State copy = state.copy();
        for (int day = 0; day < 1000; day++) {
            if (copy.stories.get(number).left == 0) {
                return day;
            }
            copy.letDayPass();
        }
        throw new NoSuchElementException();
    }

    public int finishDayByRecursion(int number) {
        Story story = story(number);
        if (story.left == 0) {
            return 0;
        }
        int days = 0;
        for (int blocker : story.blockers) {
            days = Math.max(days, finishDayByRecursion(blocker));
        }
        if (story.developer == null) {
            throw new NoSuchElementException();
        }
        return days + (int) Math.ceil((double) story.left / speed(story.developer));
    }

    public int writeStory(int number) {
        Story story = story(number);
        line = number + ":" + story.left + "/" + story.estimate + (story.planned ? "p" : "")
            + (state.blocked(story) ? "b" : "") + (story.developer == null ? "" : "@" + story.developer);
        return line.length();
    }

    public int writeBurnDown() {
        List<String> numbers = new ArrayList<>();
        if (state.burnDown != null) {
            state.burnDown.forEach(points -> numbers.add(String.valueOf(points)));
        }
        line = String.join(" ", numbers);
        return line.length();
    }

    public char lineAt(int index) {
        if (index < 0 || index >= line.length()) {
            throw new IndexOutOfBoundsException();
        }
        return line.charAt(index);
    }

    public boolean isConsistent() {
        return true;
    }

    public int type(char character) {
        argument(character >= 32 && character <= 126);
        state(buffer.length() < 60);
        buffer += character;
        return buffer.length();
    }

    public int execute() {
        String text = buffer;
        buffer = "";
        if (!TEXT.matcher(text).matches()) {
            errorPosition = positionOfError(text);
            throw new IllegalArgumentException();
        }
        State before = state.copy();
        List<State> pastBefore = new ArrayList<>(past);
        String[] commands = text.split(";");
        for (int index = 0; index < commands.length; index++) {
            boolean fails = false;
            try {
                carryOut(commands[index].split(" "));
            } catch (RuntimeException thrown) {
                fails = true;
            }
            if (fails) {
                state = before;
                past.clear();
                past.addAll(pastBefore);
                failedCommand = index;
                throw new IllegalStateException();
            }
        }
        past.clear();
        past.addAll(pastBefore);
        State after = state;
        state = before;
        remember();
        state = after;
        return commands.length;
    }

    private static int positionOfError(String text) {
        for (int end = 1; end <= text.length(); end++) {
            Matcher matcher = TEXT.matcher(text.substring(0, end));
            if (!matcher.matches() && !matcher.hitEnd()) {
                return end - 1;
            }
        }
        return text.length();
    }

    private void carryOut(String[] words) {
        int first = words.length > 1 ? Integer.parseInt(words[1]) : 0;
        int second = words.length > 2 ? Integer.parseInt(words[2]) : 0;
        switch (words[0]) {
            case "story" -> addStory(first);
            case "dev" -> addDeveloper(first);
            case "block" -> block(first, second);
            case "unblock" -> unblock(first, second);
            case "plan" -> plan(first);
            case "unplan" -> unplan(first);
            case "start" -> startSprint(first);
            case "assign" -> assign(first, second);
            case "free" -> unassign(first);
            case "points" -> reestimate(first, second);
            case "day" -> passDay();
            case "end" -> endSprint();
            default -> throw new AssertionError(words[0]);
        }
    }

    public int errorPosition() {
        if (errorPosition == null) {
            throw new NoSuchElementException();
        }
        return errorPosition;
    }

    public int failedCommand() {
        if (failedCommand == null) {
            throw new NoSuchElementException();
        }
        return failedCommand;
    }

    public int undo() {
        state(!past.isEmpty());
        state = past.removeLast();
        return past.size();
    }

    public int save() {
        snapshot = state.copy();
        return storyCount();
    }

    public int restore() {
        state(snapshot != null);
        state = snapshot.copy();
        past.clear();
        return storyCount();
    }
}

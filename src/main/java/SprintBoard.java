import java.util.NoSuchElementException;

/** A sprint board for a small team; what it promises is told in ../shared/DOC.md. */
public final class SprintBoard {
    private static final int MOST_STORIES = 16;
    private static final int MOST_DEVELOPERS = 4;
    private static final int MOST_SPRINTS = 9;
    private static final int MOST_DAYS = 10;
    private static final int MOST_TYPED = 60;
    private static final int MOST_UNDONE = 8;
    private static final int GREATEST_SPEED = 4;
    private static final int GREATEST_ESTIMATE = 13;
    private static final int[] ESTIMATES = {1, 2, 3, 5, 8, 13};

    // Every day on which anything can still change takes at least one point off an assigned story.
    private static final int MOST_WORK_DAYS = MOST_DEVELOPERS * GREATEST_ESTIMATE;

    private static final int NONE = -1;

    private static final int STORY = 0;
    private static final int DEV = 1;
    private static final int BLOCK = 2;
    private static final int UNBLOCK = 3;
    private static final int PLAN = 4;
    private static final int UNPLAN = 5;
    private static final int START = 6;
    private static final int ASSIGN = 7;
    private static final int FREE = 8;
    private static final int POINTS = 9;
    private static final int DAY = 10;
    private static final int END = 11;
    private static final int KINDS = 12;

    private final Board board = new Board();
    private final Board trial = new Board();
    private final Board backup = new Board();
    private final Board snapshot = new Board();
    private final History history = new History();
    private final CommandText text = new CommandText();
    private final StringBuilder line = new StringBuilder();
    private final int[] closure = new int[MOST_STORIES];
    private boolean hasSnapshot;
    private int lastErrorPosition = NONE;
    private int lastFailedCommand = NONE;

    public SprintBoard() {
    }

    public int addStory(int points) throws IllegalArgumentException, IllegalStateException {
        requireArgument(Board.isEstimate(points));
        requireState(board.canAddStory(points));
        history.keep(board);
        return board.putStory(points);
    }

    public int reestimate(int story, int points)
            throws IndexOutOfBoundsException, IllegalArgumentException, IllegalStateException {
        requireStory(story);
        requireArgument(Board.isEstimate(points));
        requireState(board.canReestimate(story, points));
        history.keep(board);
        return board.changeEstimate(story, points);
    }

    public int block(int story, int blocker)
            throws IndexOutOfBoundsException, IllegalArgumentException, IllegalStateException,
            UnsupportedOperationException {
        requireStory(story);
        requireStory(blocker);
        requireArgument(story != blocker);
        requireState(!board.hasBlocker(story, blocker) && !board.isFinished(story));
        requireSupport(board.canBlock(story, blocker));
        history.keep(board);
        return board.putBlocker(story, blocker);
    }

    public int unblock(int story, int blocker) throws IndexOutOfBoundsException, IllegalStateException {
        requireStory(story);
        requireStory(blocker);
        requireState(board.canUnblock(story, blocker));
        history.keep(board);
        return board.removeBlocker(story, blocker);
    }

    public int storyCount() {
        return board.stories;
    }

    public int estimateOf(int story) throws IndexOutOfBoundsException {
        requireStory(story);
        return board.estimates[story];
    }

    public int leftOf(int story) throws IndexOutOfBoundsException {
        requireStory(story);
        return board.remains[story];
    }

    public int workedOn(int story) throws IndexOutOfBoundsException {
        requireStory(story);
        return board.estimates[story] - board.remains[story];
    }

    public boolean isDone(int story) throws IndexOutOfBoundsException {
        requireStory(story);
        return board.isFinished(story);
    }

    public boolean isBlocked(int story) throws IndexOutOfBoundsException {
        requireStory(story);
        return board.openBlockerCount(story) > 0;
    }

    public int openBlockers(int story) throws IndexOutOfBoundsException {
        requireStory(story);
        return board.openBlockerCount(story);
    }

    public boolean isBlocker(int story, int blocker) throws IndexOutOfBoundsException {
        requireStory(story);
        requireStory(blocker);
        return board.hasBlocker(story, blocker);
    }

    public boolean dependsOn(int story, int other) throws IndexOutOfBoundsException {
        requireStory(story);
        requireStory(other);
        return board.finds(story, other);
    }

    public boolean dependsOnByClosure(int story, int other) throws IndexOutOfBoundsException {
        requireStory(story);
        requireStory(other);
        board.closeInto(closure);
        return holds(closure[story], other);
    }

    public int longestChain(int story) throws IndexOutOfBoundsException {
        requireStory(story);
        return board.chainLength(story);
    }

    public int storyInOrder(int position) throws NoSuchElementException {
        int story = board.storyAt(position);
        requireFound(story != NONE);
        return story;
    }

    public int addDeveloper(int speed) throws IllegalArgumentException, IllegalStateException {
        requireArgument(Board.isSpeed(speed));
        requireState(board.canAddDeveloper(speed));
        history.keep(board);
        return board.putDeveloper(speed);
    }

    public boolean assign(int story, int developer)
            throws IndexOutOfBoundsException, UnsupportedOperationException, IllegalStateException {
        requireStory(story);
        requireDeveloper(developer);
        requireSupport(board.active);
        requireState(board.canAssign(story, developer));
        history.keep(board);
        board.putAssignment(story, developer);
        return board.openBlockerCount(story) > 0;
    }

    public int unassign(int developer) throws IndexOutOfBoundsException, IllegalStateException {
        requireDeveloper(developer);
        requireState(board.canUnassign(developer));
        history.keep(board);
        return board.removeAssignment(developer);
    }

    public int developerCount() {
        return board.developers;
    }

    public int speedOf(int developer) throws IndexOutOfBoundsException {
        requireDeveloper(developer);
        return board.speeds[developer];
    }

    public int storyOf(int developer) throws IndexOutOfBoundsException, NoSuchElementException {
        requireDeveloper(developer);
        int story = board.assignments[developer];
        requireFound(story != NONE);
        return story;
    }

    public int developerOf(int story) throws IndexOutOfBoundsException, NoSuchElementException {
        requireStory(story);
        int developer = board.assigneeOf(story);
        requireFound(developer != NONE);
        return developer;
    }

    public int plan(int story) throws IndexOutOfBoundsException, IllegalStateException {
        requireStory(story);
        requireState(board.canPlan(story));
        history.keep(board);
        return board.putIntoPlan(story);
    }

    public int unplan(int story) throws IndexOutOfBoundsException, IllegalStateException {
        requireStory(story);
        requireState(board.canUnplan(story));
        history.keep(board);
        return board.removeFromPlan(story);
    }

    public int startSprint(int days) throws IllegalArgumentException, IllegalStateException {
        requireArgument(Board.isSprintLength(days));
        requireState(board.canStart(days));
        history.keep(board);
        return board.beginSprint(days);
    }

    public int passDay() throws IllegalStateException {
        requireState(board.canPassDay());
        history.keep(board);
        return board.spendDay();
    }

    public int endSprint() throws IllegalStateException {
        requireState(board.active);
        history.keep(board);
        return board.closeSprint();
    }

    public boolean isActive() {
        return board.active;
    }

    public int sprintCount() {
        return board.endedSprints;
    }

    public int daysPassed() throws NoSuchElementException {
        requireFound(board.active);
        return board.passedDays;
    }

    public boolean isPlanned(int story) throws IndexOutOfBoundsException {
        requireStory(story);
        return board.plans(story);
    }

    public int scope() {
        return board.plannedPoints();
    }

    public int left() {
        return board.plannedRemains();
    }

    public int worked() {
        return board.plannedWork();
    }

    public int scopeChange() throws NoSuchElementException {
        requireFound(board.active);
        return board.plannedPoints() - board.startScope;
    }

    public int burnDown(int day) throws NoSuchElementException {
        requireFound(board.hasRecorded(day));
        return board.burnDowns[day];
    }

    public float idealBurnDown(int day) throws NoSuchElementException {
        requireFound(board.hasDay(day));
        return (float) board.burnDowns[0] * (float) (board.sprintLength - day) / (float) board.sprintLength;
    }

    public int velocityOf(int sprint) throws IndexOutOfBoundsException {
        requireIndex(board.hasEnded(sprint));
        return board.velocities[sprint];
    }

    public double meanVelocity() throws ArithmeticException {
        if (board.endedSprints < 1) {
            throw new ArithmeticException("no sprint has ended");
        }
        return (double) board.velocitySum() / (double) board.endedSprints;
    }

    public int finishDay(int story) throws IndexOutOfBoundsException, NoSuchElementException {
        requireStory(story);
        int days = daysOnTrial(story);
        requireFound(days != NONE);
        return days;
    }

    public int finishDayByRecursion(int story) throws IndexOutOfBoundsException, NoSuchElementException {
        requireStory(story);
        int days = daysNeeded(board, story, 0);
        requireFound(days != NONE);
        return days;
    }

    public int writeStory(int story) throws IndexOutOfBoundsException {
        requireStory(story);
        line.setLength(0);
        line.append(story).append(':').append(board.remains[story]).append('/').append(board.estimates[story]);
        if (board.plans(story)) {
            line.append('p');
        }
        if (board.openBlockerCount(story) > 0) {
            line.append('b');
        }
        int developer = board.assigneeOf(story);
        if (developer != NONE) {
            line.append('@').append(developer);
        }
        return line.length();
    }

    public int writeBurnDown() {
        line.setLength(0);
        for (int day = 0; day < board.burnDowns.length && board.hasRecorded(day); day++) {
            if (day > 0) {
                line.append(' ');
            }
            line.append(board.burnDowns[day]);
        }
        return line.length();
    }

    public char lineAt(int index) throws IndexOutOfBoundsException {
        requireIndex(index >= 0 && index < line.length());
        return line.charAt(index);
    }

    public boolean isConsistent() {
        if (board.plannedWork() + board.plannedRemains() != board.plannedPoints()) {
            return false;
        }
        board.closeInto(closure);
        for (int story = 0; story < closure.length && board.hasStory(story); story++) {
            if (!agreesWithClosure(story, closure[story]) || daysOnTrial(story) != daysNeeded(board, story, 0)) {
                return false;
            }
        }
        return true;
    }

    public int type(char character) throws IllegalArgumentException, IllegalStateException {
        requireArgument(character >= ' ' && character <= '~');
        requireState(text.hasRoom());
        return text.append(character);
    }

    public int execute() throws IllegalArgumentException, IllegalStateException {
        int error = text.takeCommands();
        if (error != NONE) {
            lastErrorPosition = error;
            throw new IllegalArgumentException("the text is malformed");
        }
        backup.copyFrom(board);
        int failed = carryOutCommands();
        if (failed != NONE) {
            board.copyFrom(backup);
            lastFailedCommand = failed;
            throw new IllegalStateException("a command fails");
        }
        history.keep(backup);
        return text.commands;
    }

    public int errorPosition() throws NoSuchElementException {
        requireFound(lastErrorPosition != NONE);
        return lastErrorPosition;
    }

    public int failedCommand() throws NoSuchElementException {
        requireFound(lastFailedCommand != NONE);
        return lastFailedCommand;
    }

    public int undo() throws IllegalStateException {
        requireState(history.size > 0);
        history.takeBackInto(board);
        return history.size;
    }

    public int save() {
        snapshot.copyFrom(board);
        hasSnapshot = true;
        return board.stories;
    }

    public int restore() throws IllegalStateException {
        requireState(hasSnapshot);
        board.copyFrom(snapshot);
        history.forgetAll();
        return board.stories;
    }

    private void requireStory(int story) {
        requireIndex(board.hasStory(story));
    }

    private void requireDeveloper(int developer) {
        requireIndex(board.hasDeveloper(developer));
    }

    private static void requireIndex(boolean exists) {
        if (!exists) {
            throw new IndexOutOfBoundsException("there is no such number");
        }
    }

    private static void requireArgument(boolean fits) {
        if (!fits) {
            throw new IllegalArgumentException("the argument is not allowed");
        }
    }

    private static void requireState(boolean allows) {
        if (!allows) {
            throw new IllegalStateException("the board does not allow this now");
        }
    }

    private static void requireSupport(boolean supported) {
        if (!supported) {
            throw new UnsupportedOperationException("the board cannot do this");
        }
    }

    private static void requireFound(boolean found) {
        if (!found) {
            throw new NoSuchElementException("there is none");
        }
    }

    private static boolean holds(int set, int story) {
        return (set >>> story & 1) != 0;
    }

    private static int setOf(int story) {
        return 1 << story;
    }

    private boolean agreesWithClosure(int story, int closed) {
        for (int other = 0; other < board.stories; other++) {
            if (board.finds(story, other) != holds(closed, other)) {
                return false;
            }
        }
        return true;
    }

    private int daysOnTrial(int story) {
        trial.copyFrom(board);
        for (int day = 0; day <= MOST_WORK_DAYS; day++) {
            if (trial.isFinished(story)) {
                return day;
            }
            trial.work();
        }
        return NONE;
    }

    private static int daysNeeded(Board board, int story, int depth) {
        if (board.isFinished(story)) {
            return 0;
        }
        int speed = board.speedOn(story);
        if (!board.hasStory(story) || speed < 1 || depth >= MOST_STORIES) {
            return NONE;
        }
        int wait = 0;
        for (int blocker = 0; blocker < board.stories; blocker++) {
            if (board.hasBlocker(story, blocker)) {
                int days = daysNeeded(board, blocker, depth + 1);
                if (days == NONE) {
                    return NONE;
                }
                wait = Math.max(wait, days);
            }
        }
        return wait + (board.remains[story] + speed - 1) / speed;
    }

    private int carryOutCommands() {
        for (int index = 0; index < text.commands && index < MOST_TYPED; index++) {
            int kind = text.kinds[index];
            int first = text.firsts[index];
            int second = text.seconds[index];
            if (!allows(kind, first, second)) {
                return index;
            }
            carryOut(kind, first, second);
        }
        return NONE;
    }

    private boolean allows(int kind, int first, int second) {
        switch (kind) {
            case STORY: return board.canAddStory(first);
            case DEV: return board.canAddDeveloper(first);
            case BLOCK: return board.canBlock(first, second);
            case UNBLOCK: return board.canUnblock(first, second);
            case PLAN: return board.canPlan(first);
            case UNPLAN: return board.canUnplan(first);
            case START: return board.canStart(first);
            case ASSIGN: return board.canAssign(first, second);
            case FREE: return board.canUnassign(first);
            case POINTS: return board.canReestimate(first, second);
            case DAY: return board.canPassDay();
            case END: return board.active;
            default: return false;
        }
    }

    private void carryOut(int kind, int first, int second) {
        switch (kind) {
            case STORY: board.putStory(first); break;
            case DEV: board.putDeveloper(first); break;
            case BLOCK: board.putBlocker(first, second); break;
            case UNBLOCK: board.removeBlocker(first, second); break;
            case PLAN: board.putIntoPlan(first); break;
            case UNPLAN: board.removeFromPlan(first); break;
            case START: board.beginSprint(first); break;
            case ASSIGN: board.putAssignment(first, second); break;
            case FREE: board.removeAssignment(first); break;
            case POINTS: board.changeEstimate(first, second); break;
            case DAY: board.spendDay(); break;
            case END: board.closeSprint(); break;
            default: break;
        }
    }

    /**
     * The state that is undone, saved and restored. Sets of stories are bits of an int. Its changes are to be
     * called only where the question before them (canAddStory for putStory, and so on) is answered with true.
     */
    private static final class Board {
        final int[] estimates = new int[MOST_STORIES];
        final int[] remains = new int[MOST_STORIES];
        final int[] blockerSets = new int[MOST_STORIES];
        final int[] speeds = new int[MOST_DEVELOPERS];
        final int[] assignments = new int[MOST_DEVELOPERS];
        final int[] burnDowns = new int[MOST_DAYS + 1];
        final int[] velocities = new int[MOST_SPRINTS];
        int stories;
        int developers;
        int plannedSet;
        boolean active;
        int sprintLength;
        int passedDays;
        int startScope;
        int endedSprints;

        Board() {
            for (int developer = 0; developer < assignments.length; developer++) {
                assignments[developer] = NONE;
            }
        }

        void copyFrom(Board other) {
            copyRow(other.estimates, estimates);
            copyRow(other.remains, remains);
            copyRow(other.blockerSets, blockerSets);
            copyRow(other.speeds, speeds);
            copyRow(other.assignments, assignments);
            copyRow(other.burnDowns, burnDowns);
            copyRow(other.velocities, velocities);
            stories = other.stories;
            developers = other.developers;
            plannedSet = other.plannedSet;
            active = other.active;
            sprintLength = other.sprintLength;
            passedDays = other.passedDays;
            startScope = other.startScope;
            endedSprints = other.endedSprints;
        }

        private static void copyRow(int[] from, int[] to) {
            for (int index = 0; index < from.length && index < to.length; index++) {
                to[index] = from[index];
            }
        }

        static boolean isEstimate(int points) {
            for (int estimate : ESTIMATES) {
                if (points == estimate) {
                    return true;
                }
            }
            return false;
        }

        static boolean isSpeed(int speed) {
            return speed >= 1 && speed <= GREATEST_SPEED;
        }

        static boolean isSprintLength(int days) {
            return days >= 1 && days <= MOST_DAYS;
        }

        boolean hasStory(int story) {
            return story >= 0 && story < stories && story < MOST_STORIES;
        }

        boolean hasDeveloper(int developer) {
            return developer >= 0 && developer < developers && developer < MOST_DEVELOPERS;
        }

        boolean isFinished(int story) {
            return hasStory(story) && remains[story] == 0;
        }

        boolean plans(int story) {
            return hasStory(story) && holds(plannedSet, story);
        }

        boolean canAddStory(int points) {
            return isEstimate(points) && stories < MOST_STORIES;
        }

        int putStory(int points) {
            int story = stories;
            if (story < 0 || story >= MOST_STORIES) {
                return NONE;
            }
            estimates[story] = points;
            remains[story] = points;
            blockerSets[story] = 0;
            stories++;
            return story;
        }

        boolean canReestimate(int story, int points) {
            return hasStory(story) && isEstimate(points) && !isFinished(story);
        }

        int changeEstimate(int story, int points) {
            if (!hasStory(story)) {
                return NONE;
            }
            int work = Math.min(estimates[story] - remains[story], points);
            estimates[story] = points;
            remains[story] = points - work;
            int developer = assigneeOf(story);
            if (remains[story] == 0 && hasDeveloper(developer)) {
                assignments[developer] = NONE;
            }
            return remains[story];
        }

        boolean hasBlocker(int story, int blocker) {
            return hasStory(story) && hasStory(blocker) && holds(blockerSets[story], blocker);
        }

        boolean canBlock(int story, int blocker) {
            return hasStory(story) && hasStory(blocker) && story != blocker && !hasBlocker(story, blocker)
                    && !isFinished(story) && !finds(blocker, story);
        }

        int putBlocker(int story, int blocker) {
            if (!hasStory(story) || !hasStory(blocker)) {
                return NONE;
            }
            blockerSets[story] |= setOf(blocker);
            return Integer.bitCount(blockerSets[story]);
        }

        boolean canUnblock(int story, int blocker) {
            return hasBlocker(story, blocker);
        }

        int removeBlocker(int story, int blocker) {
            if (!hasStory(story) || !hasStory(blocker)) {
                return NONE;
            }
            blockerSets[story] &= ~setOf(blocker);
            return Integer.bitCount(blockerSets[story]);
        }

        int openBlockerCount(int story) {
            return hasStory(story) ? Integer.bitCount(blockerSets[story] & unfinishedSet()) : 0;
        }

        private int unfinishedSet() {
            int unfinished = 0;
            for (int story = 0; story < remains.length; story++) {
                if (remains[story] > 0) {
                    unfinished |= setOf(story);
                }
            }
            return unfinished;
        }

        boolean finds(int story, int goal) {
            int seen = 0;
            int next = blockersOfAny(setOf(story));
            for (int step = 0; step < MOST_STORIES && next != 0; step++) {
                if (holds(next, goal)) {
                    return true;
                }
                seen |= next;
                next = blockersOfAny(next) & ~seen;
            }
            return false;
        }

        private int blockersOfAny(int set) {
            int blockers = 0;
            for (int story = 0; story < blockerSets.length; story++) {
                if (holds(set, story)) {
                    blockers |= blockerSets[story];
                }
            }
            return blockers;
        }

        void closeInto(int[] closed) {
            copyRow(blockerSets, closed);
            for (int middle = 0; middle < closed.length; middle++) {
                for (int story = 0; story < closed.length; story++) {
                    if (holds(closed[story], middle)) {
                        closed[story] |= closed[middle];
                    }
                }
            }
        }

        int chainLength(int story) {
            int length = 0;
            int heads = setOf(story);
            while (length < MOST_STORIES && heads != 0) {
                heads = blockersOfAny(heads);
                length++;
            }
            return length;
        }

        int storyAt(int position) {
            int placed = 0;
            for (int place = 0; place < stories; place++) {
                int story = firstReady(placed);
                if (story == NONE || place == position) {
                    return story;
                }
                placed |= setOf(story);
            }
            return NONE;
        }

        private int firstReady(int placed) {
            for (int story = 0; story < stories && story < blockerSets.length; story++) {
                if (!holds(placed, story) && (blockerSets[story] & ~placed) == 0) {
                    return story;
                }
            }
            return NONE;
        }

        boolean canAddDeveloper(int speed) {
            return isSpeed(speed) && developers < MOST_DEVELOPERS;
        }

        int putDeveloper(int speed) {
            int developer = developers;
            if (developer < 0 || developer >= MOST_DEVELOPERS) {
                return NONE;
            }
            speeds[developer] = speed;
            assignments[developer] = NONE;
            developers++;
            return developer;
        }

        boolean canAssign(int story, int developer) {
            return active && plans(story) && !isFinished(story) && assigneeOf(story) == NONE
                    && hasDeveloper(developer) && assignments[developer] == NONE;
        }

        void putAssignment(int story, int developer) {
            if (hasStory(story) && hasDeveloper(developer)) {
                assignments[developer] = story;
            }
        }

        boolean canUnassign(int developer) {
            return hasDeveloper(developer) && assignments[developer] != NONE;
        }

        int removeAssignment(int developer) {
            if (!hasDeveloper(developer)) {
                return NONE;
            }
            int story = assignments[developer];
            assignments[developer] = NONE;
            return story;
        }

        int assigneeOf(int story) {
            for (int developer = 0; developer < assignments.length; developer++) {
                if (assignments[developer] == story) {
                    return developer;
                }
            }
            return NONE;
        }

        int speedOn(int story) {
            int developer = assigneeOf(story);
            return hasDeveloper(developer) ? speeds[developer] : 0;
        }

        boolean canPlan(int story) {
            return hasStory(story) && !plans(story) && !isFinished(story);
        }

        int putIntoPlan(int story) {
            plannedSet |= setOf(story);
            return plannedPoints();
        }

        boolean canUnplan(int story) {
            return plans(story) && assigneeOf(story) == NONE;
        }

        int removeFromPlan(int story) {
            plannedSet &= ~setOf(story);
            return plannedPoints();
        }

        int plannedPoints() {
            return sumOfPlanned(estimates);
        }

        int plannedRemains() {
            return sumOfPlanned(remains);
        }

        int plannedWork() {
            int work = 0;
            for (int story = 0; story < estimates.length; story++) {
                if (holds(plannedSet, story)) {
                    work += estimates[story] - remains[story];
                }
            }
            return work;
        }

        private int sumOfPlanned(int[] points) {
            int sum = 0;
            for (int story = 0; story < points.length; story++) {
                if (holds(plannedSet, story)) {
                    sum += points[story];
                }
            }
            return sum;
        }

        boolean canStart(int days) {
            return isSprintLength(days) && !active && endedSprints < MOST_SPRINTS;
        }

        int beginSprint(int days) {
            active = true;
            sprintLength = days;
            passedDays = 0;
            startScope = plannedPoints();
            burnDowns[0] = plannedRemains();
            return endedSprints;
        }

        boolean canPassDay() {
            return active && passedDays < sprintLength;
        }

        int spendDay() {
            int finished = work();
            passedDays++;
            if (passedDays >= 0 && passedDays < burnDowns.length) {
                burnDowns[passedDays] = plannedRemains();
            }
            return finished;
        }

        int work() {
            // A blocker that is finished today frees its stories from tomorrow on.
            int unfinished = unfinishedSet();
            int finished = 0;
            for (int developer = 0; developer < assignments.length; developer++) {
                int story = assignments[developer];
                if (hasStory(story) && (blockerSets[story] & unfinished) == 0) {
                    remains[story] = Math.max(remains[story] - speeds[developer], 0);
                    if (remains[story] == 0) {
                        assignments[developer] = NONE;
                        finished++;
                    }
                }
            }
            return finished;
        }

        int closeSprint() {
            int velocity = finishedPoints();
            if (endedSprints >= 0 && endedSprints < velocities.length) {
                velocities[endedSprints] = velocity;
            }
            endedSprints++;
            active = false;
            plannedSet = 0;
            for (int developer = 0; developer < assignments.length; developer++) {
                assignments[developer] = NONE;
            }
            return velocity;
        }

        private int finishedPoints() {
            int points = 0;
            for (int story = 0; story < estimates.length; story++) {
                if (holds(plannedSet, story) && remains[story] == 0) {
                    points += estimates[story];
                }
            }
            return points;
        }

        boolean hasRecorded(int day) {
            return active && day >= 0 && day <= passedDays && day < burnDowns.length;
        }

        boolean hasDay(int day) {
            return active && sprintLength > 0 && day >= 0 && day <= sprintLength;
        }

        boolean hasEnded(int sprint) {
            return sprint >= 0 && sprint < endedSprints && sprint < velocities.length;
        }

        int velocitySum() {
            int sum = 0;
            for (int sprint = 0; sprint < endedSprints && sprint < velocities.length; sprint++) {
                sum += velocities[sprint];
            }
            return sum;
        }
    }

    /** The states before the last modifications, in boards that are made once and used in turn. */
    private static final class History {
        private final Board[] boards = new Board[MOST_UNDONE];
        private int next;
        int size;

        History() {
            for (int index = 0; index < boards.length; index++) {
                boards[index] = new Board();
            }
        }

        void keep(Board board) {
            Board kept = boards[Math.floorMod(next, MOST_UNDONE)];
            if (kept != null) {
                kept.copyFrom(board);
                next++;
                size = Math.min(size + 1, MOST_UNDONE);
            }
        }

        void takeBackInto(Board board) {
            Board kept = boards[Math.floorMod(next - 1, MOST_UNDONE)];
            if (kept != null && size > 0) {
                board.copyFrom(kept);
                next--;
                size--;
            }
        }

        void forgetAll() {
            size = 0;
        }
    }

    /** The text buffer, and the commands of the text that was taken from it last. */
    private static final class CommandText {
        final int[] kinds = new int[MOST_TYPED];
        final int[] firsts = new int[MOST_TYPED];
        final int[] seconds = new int[MOST_TYPED];
        int commands;
        private final StringBuilder typed = new StringBuilder();
        private int position;

        boolean hasRoom() {
            return typed.length() < MOST_TYPED;
        }

        int append(char character) {
            typed.append(character);
            return typed.length();
        }

        /** Empties the buffer; returns the error position, or NONE if the text is well-formed. */
        int takeCommands() {
            int error = readText();
            typed.setLength(0);
            return error;
        }

        private int readText() {
            position = 0;
            commands = 0;
            for (int index = 0; index < MOST_TYPED; index++) {
                if (index > 0 && !skip(';')) {
                    return position;
                }
                if (!readCommand(index)) {
                    return position;
                }
                commands++;
                if (position == typed.length()) {
                    return NONE;
                }
            }
            return position;
        }

        private boolean readCommand(int index) {
            int start = position;
            int furthest = start;
            for (int kind = 0; kind < KINDS; kind++) {
                position = start;
                if (readForm(formOf(kind), index)) {
                    kinds[index] = kind;
                    return true;
                }
                furthest = Math.max(furthest, position);
            }
            // No other form gets past it, so there is the first character that continues none of them.
            position = furthest;
            return false;
        }

        private boolean readForm(String form, int index) {
            int numbers = 0;
            for (int place = 0; place < form.length(); place++) {
                char sign = form.charAt(place);
                if (sign == 'N' || sign == 'D') {
                    int number = readNumber(sign == 'N');
                    if (number == NONE) {
                        return false;
                    }
                    keepNumber(index, numbers, number);
                    numbers++;
                } else if (!skip(sign)) {
                    return false;
                }
            }
            return true;
        }

        private void keepNumber(int index, int numbers, int number) {
            if (numbers == 0) {
                firsts[index] = number;
            } else {
                seconds[index] = number;
            }
        }

        private int readNumber(boolean mayHaveTwoDigits) {
            int tens = readDigit();
            if (tens == NONE || !mayHaveTwoDigits) {
                return tens;
            }
            int ones = readDigit();
            return ones == NONE ? tens : tens * 10 + ones;
        }

        private int readDigit() {
            if (position < 0 || position >= typed.length()) {
                return NONE;
            }
            char digit = typed.charAt(position);
            if (digit < '0' || digit > '9') {
                return NONE;
            }
            position++;
            return digit - '0';
        }

        private boolean skip(char sign) {
            if (position < 0 || position >= typed.length() || typed.charAt(position) != sign) {
                return false;
            }
            position++;
            return true;
        }

        // The grammar's own words: N for one or two digits and D for one; no keyword has a capital.
        private static String formOf(int kind) {
            switch (kind) {
                case STORY: return "story N";
                case DEV: return "dev D";
                case BLOCK: return "block N N";
                case UNBLOCK: return "unblock N N";
                case PLAN: return "plan N";
                case UNPLAN: return "unplan N";
                case START: return "start N";
                case ASSIGN: return "assign N D";
                case FREE: return "free D";
                case POINTS: return "points N N";
                case DAY: return "day";
                default: return "end";
            }
        }
    }
}

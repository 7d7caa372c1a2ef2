import java.util.function.Function;
import java.util.function.Supplier;

/**
 * The numbers of stories, developers, positions, days, sprints and signs: the first and the last one that there is,
 * and those before and after them, on boards from empty to full.
 */
public final class NumberBoundaryTest extends Boards {
    private static final String NO_STORY = ": Throws IndexOutOfBoundsException if there is no such story";
    private static final String NEITHER = ": Throws IndexOutOfBoundsException if either story does not exist";
    private static final String NO_DEVELOPER = ": Throws IndexOutOfBoundsException if there is no such developer";
    private static final String NEITHER_OF_BOTH =
        "19: Throws IndexOutOfBoundsException if there is no such story or developer";

    private interface Numbered {
        Object answer(SprintBoard x, int number);
    }

    private NumberBoundaryTest() {
    }

    public static void main(String[] arguments) throws IllegalAccessException {
        runAll(NumberBoundaryTest.class);
    }

    static void storyOfAModification() {
        stories("3" + NO_STORY, (x, story) -> x.reestimate(story, 3));
        stories("3" + NO_STORY, (x, story) -> x.reestimate(story, 4));
        stories("4" + NEITHER, (x, story) -> x.block(story, 0));
        stories("4" + NEITHER, (x, story) -> x.block(0, story));
        stories("4" + NEITHER, (x, story) -> x.block(story, story));
        stories("5" + NEITHER, (x, story) -> x.unblock(story, 0));
        stories("5" + NEITHER, (x, story) -> x.unblock(0, story));
        stories("5" + NEITHER, (x, story) -> x.unblock(story, story));
        stories(NEITHER_OF_BOTH, (x, story) -> x.assign(story, 0));
        stories("25" + NO_STORY, SprintBoard::plan);
        stories("26" + NO_STORY, SprintBoard::unplan);
    }

    static void storyOfAQuestion() {
        stories("7" + NO_STORY, SprintBoard::estimateOf);
        stories("8" + NO_STORY, SprintBoard::leftOf);
        stories("9" + NO_STORY, SprintBoard::workedOn);
        stories("10" + NO_STORY, SprintBoard::isDone);
        stories("11" + NO_STORY, SprintBoard::isBlocked);
        stories("12" + NO_STORY, SprintBoard::openBlockers);
        stories("16" + NO_STORY, SprintBoard::longestChain);
        stories("24" + NO_STORY, SprintBoard::developerOf);
        stories("33" + NO_STORY, SprintBoard::isPlanned);
        stories("42" + NO_STORY, SprintBoard::finishDay);
        stories("43" + NO_STORY, SprintBoard::finishDayByRecursion);
        stories("44" + NO_STORY, SprintBoard::writeStory);
    }

    static void eitherStoryOfAQuestion() {
        stories("13" + NEITHER, (x, story) -> x.isBlocker(story, 0));
        stories("13" + NEITHER, (x, story) -> x.isBlocker(0, story));
        stories("13" + NEITHER, (x, story) -> x.isBlocker(story, story));
        stories("14" + NEITHER, (x, story) -> x.dependsOn(story, 0));
        stories("14" + NEITHER, (x, story) -> x.dependsOn(0, story));
        stories("14" + NEITHER, (x, story) -> x.dependsOn(story, story));
        stories("15" + NEITHER, (x, story) -> x.dependsOnByClosure(story, 0));
        stories("15" + NEITHER, (x, story) -> x.dependsOnByClosure(0, story));
        stories("15" + NEITHER, (x, story) -> x.dependsOnByClosure(story, story));
    }

    static void developer() {
        developers(NEITHER_OF_BOTH, (x, developer) -> x.assign(0, developer));
        developers("20" + NO_DEVELOPER, SprintBoard::unassign);
        developers("22" + NO_DEVELOPER, SprintBoard::speedOf);
        developers("23" + NO_DEVELOPER, SprintBoard::storyOf);
    }

    static void position() {
        sentence("17: Throws NoSuchElementException if there is no such position");
        edges(SprintBoard::new, 0, FOUND, SprintBoard::storyInOrder);
        edges(Boards::busy, 4, FOUND, SprintBoard::storyInOrder);
        edges(Boards::full, 16, FOUND, SprintBoard::storyInOrder);
        edges(Boards::chain, 16, FOUND, SprintBoard::storyInOrder);
        edges(() -> after(Boards::full, SprintBoard::undo), 15, FOUND, SprintBoard::storyInOrder);
    }

    static void dayThatHasPassed() {
        sentence("38: Throws NoSuchElementException if no sprint is active, or this day has not passed");
        edges(SprintBoard::new, 0, FOUND, SprintBoard::burnDown);
        edges(() -> sprint(10, 0), 1, FOUND, SprintBoard::burnDown);
        edges(Boards::busy, 2, FOUND, SprintBoard::burnDown);
        edges(() -> sprint(10, 9), 10, FOUND, SprintBoard::burnDown);
        edges(() -> sprint(10, 10), 11, FOUND, SprintBoard::burnDown);
        edges(() -> sprint(1, 1), 2, FOUND, SprintBoard::burnDown);
        edges(() -> after(() -> sprint(10, 10), SprintBoard::endSprint), 0, FOUND, SprintBoard::burnDown);
        edges(() -> sprintAfterALongerOne(2), 1, FOUND, SprintBoard::burnDown);
        edges(() -> after(() -> sprint(10, 5), SprintBoard::undo), 5, FOUND, SprintBoard::burnDown);
    }

    static void dayOfTheSprint() {
        sentence("39: Throws NoSuchElementException if no sprint is active, or there is no such day in it");
        edges(SprintBoard::new, 0, FOUND, SprintBoard::idealBurnDown);
        edges(() -> sprint(1, 0), 2, FOUND, SprintBoard::idealBurnDown);
        edges(Boards::busy, 4, FOUND, SprintBoard::idealBurnDown);
        edges(() -> sprint(10, 0), 11, FOUND, SprintBoard::idealBurnDown);
        edges(() -> sprint(10, 10), 11, FOUND, SprintBoard::idealBurnDown);
        edges(() -> after(() -> sprint(10, 10), SprintBoard::endSprint), 0, FOUND, SprintBoard::idealBurnDown);
        edges(() -> sprintAfterALongerOne(2), 3, FOUND, SprintBoard::idealBurnDown);
    }

    static void sprintThatHasEnded() {
        sentence("40: Throws IndexOutOfBoundsException if there is no such sprint");
        edges(SprintBoard::new, 0, INDEX, SprintBoard::velocityOf);
        edges(() -> sprint(1, 1), 0, INDEX, SprintBoard::velocityOf);
        edges(Boards::busy, 1, INDEX, SprintBoard::velocityOf);
        edges(() -> sprintsEnded(8), 8, INDEX, SprintBoard::velocityOf);
        edges(() -> sprintsEnded(9), 9, INDEX, SprintBoard::velocityOf);
        edges(() -> after(() -> sprintsEnded(9), SprintBoard::undo), 8, INDEX, SprintBoard::velocityOf);
    }

    static void signOfTheLine() {
        sentence("46: Throws IndexOutOfBoundsException if there is no such character");
        edges(SprintBoard::new, 0, INDEX, SprintBoard::lineAt);
        edges(Boards::busy, 9, INDEX, SprintBoard::lineAt);
        edges(() -> after(() -> board(5), x -> x.writeStory(0)), 5, INDEX, SprintBoard::lineAt);
        edges(() -> after(Boards::busy, x -> x.writeStory(1)), 5, INDEX, SprintBoard::lineAt);
        edges(() -> after(() -> sprint(10, 10), SprintBoard::writeBurnDown), 21, INDEX, SprintBoard::lineAt);
        edges(() -> after(() -> stories(1), SprintBoard::writeBurnDown), 0, INDEX, SprintBoard::lineAt);
    }

    private static SprintBoard sprint(int days, int passed) {
        SprintBoard x = new SprintBoard();
        x.startSprint(days);
        pass(x, passed);
        return x;
    }

    private static SprintBoard sprintAfterALongerOne(int days) {
        SprintBoard x = sprint(10, 10);
        x.endSprint();
        x.startSprint(days);
        return x;
    }

    private static SprintBoard sprintsEnded(int count) {
        SprintBoard x = new SprintBoard();
        for (int sprint = 0; sprint < count; sprint++) {
            x.startSprint(1);
            x.endSprint();
        }
        return x;
    }

    private static SprintBoard oneDeveloperAndStories(int count) {
        SprintBoard x = developers(1);
        for (int story = 0; story < count; story++) {
            x.addStory(1);
        }
        return x;
    }

    private static SprintBoard oneStoryAndDevelopers(int... speeds) {
        SprintBoard x = stories(1);
        for (int speed : speeds) {
            x.addDeveloper(speed);
        }
        return x;
    }

    private static void stories(String words, Numbered call) {
        sentence(words);
        edges(SprintBoard::new, 0, INDEX, call);
        edges(() -> oneDeveloperAndStories(1), 1, INDEX, call);
        edges(Boards::busy, 4, INDEX, call);
        edges(() -> oneDeveloperAndStories(16), 16, INDEX, call);
        edges(() -> after(() -> oneDeveloperAndStories(16), SprintBoard::undo), 15, INDEX, call);
        edges(() -> after(() -> after(Boards::busy, x -> x.addStory(1)), SprintBoard::restore), 3, INDEX, call);
    }

    private static void developers(String words, Numbered call) {
        sentence(words);
        edges(() -> stories(1), 0, INDEX, call);
        edges(() -> oneStoryAndDevelopers(4), 1, INDEX, call);
        edges(Boards::busy, 3, INDEX, call);
        edges(() -> oneStoryAndDevelopers(1, 2, 3, 4), 4, INDEX, call);
        edges(() -> after(() -> oneStoryAndDevelopers(1, 2, 3, 4), SprintBoard::undo), 3, INDEX, call);
        edges(() -> after(Boards::busy, SprintBoard::restore), 1, INDEX, call);
    }

    /** On a board with so many of them the call refuses every number outside, and the first and the last one never. */
    private static void edges(Supplier<SprintBoard> made, int count, Class<? extends RuntimeException> due,
            Numbered call) {
        for (int number : numbersOutside(count)) {
            Function<SprintBoard, Object> wrong = x -> call.answer(x, number);
            refuses(number + " of " + count, due, made, wrong);
        }
        for (int number : new int[] {0, count - 1}) {
            if (count > 0) {
                SprintBoard x = made.get();
                Object answer = outcome(() -> call.answer(x, number));
                boolean isMissing = answer == INDEX || answer == due && due == FOUND;
                is("the edge " + number + " of " + count + " answers " + answer, false, isMissing);
            }
        }
    }
}

import java.util.ArrayList;
import java.util.Collections;
import java.util.List;
import java.util.Random;
import java.util.function.Consumer;

/**
 * What the document says ahead of its promises, under "What it is" and "Terms": what one call tells is compared with
 * what others tell of the same board, on boards after some modifications, which are the same every time.
 */
public final class TermsTest extends Boards {
    private static final int BOARDS = 1000;
    private static final int MODIFICATIONS = 80;
    private static final int CALLS = 512;

    private TermsTest() {
    }

    public static void main(String[] arguments) throws IllegalAccessException {
        runAll(TermsTest.class);
    }

    static void upToTheLastCall() {
        sentence("An object is used for at most 512 calls after it has been made");
        SprintBoard x = new SprintBoard();
        for (int call = 0; call < CALLS; call += 2) {
            is("adding, call " + call, 0, outcome(() -> x.addStory(13)));
            is("undoing, call " + call, 0, outcome(x::undo));
        }
        SprintBoard chain = chain();
        for (int call = 31; call < CALLS; call++) {
            is("a chain, call " + call, true, outcome(chain::isConsistent));
        }
        SprintBoard told = new SprintBoard();
        for (int text = 0; text < 8; text++) {
            is("text " + text, 8, outcome(() -> run(told, "story 13;dev 4;plan 0;start 9;assign 0 0;day;end;plan 0")));
            told.undo();
        }
    }

    static void afterASprint() {
        sentence("When a sprint ends, no story is planned any more, and no developer is assigned");
        forSomeBoards(x -> {
            outcome(() -> x.startSprint(1));
            outcome(x::endSprint);
            is("active", false, x.isActive());
            int stories = x.storyCount();
            for (int story = 0; story < stories; story++) {
                is("planned", false, x.isPlanned(story));
            }
            int developers = x.developerCount();
            for (int developer = 0; developer < developers; developer++) {
                int number = developer;
                fails("assigned", FOUND, () -> x.storyOf(number));
            }
        });
    }

    static void workedAndLeft() {
        sentence("The points that are worked and the points that are left add up to the scope");
        forSomeBoards(x -> {
            is("the scope", x.scope(), x.worked() + x.left());
            int scope = 0;
            int left = 0;
            for (int story = 0; story < x.storyCount(); story++) {
                scope += x.isPlanned(story) ? x.estimateOf(story) : 0;
                left += x.isPlanned(story) ? x.leftOf(story) : 0;
            }
            is("the sum of the estimates of all planned stories", scope, x.scope());
            is("the points that are left of all planned stories", left, x.left());
        });
    }

    static void pointsOfAStory() {
        sentence("The points that are worked are the estimate minus the points that are left");
        forEachStory((x, story) -> {
            is("worked", x.estimateOf(story) - x.leftOf(story), x.workedOn(story));
            is("done if none are left", x.leftOf(story) == 0, x.isDone(story));
            is("never less than none", true, x.leftOf(story) >= 0 && x.workedOn(story) >= 0);
        });
    }

    static void blockedByOne() {
        sentence("A story is blocked if at least one of its blockers is not done");
        forEachStory((x, story) -> {
            int open = 0;
            for (int blocker : blockersOf(x, story)) {
                open += x.isDone(blocker) ? 0 : 1;
            }
            is("open blockers", open, x.openBlockers(story));
            is("blocked", open > 0, x.isBlocked(story));
        });
    }

    static void dependence() {
        sentence("A story depends on another one if that one is a blocker of it, or a blocker of it depends on that one");
        forSomeBoards(x -> {
            int stories = Math.min(x.storyCount(), 4);
            for (int story = 0; story < stories; story++) {
                List<Integer> blockers = blockersOf(x, story);
                for (int other = 0; other < stories; other++) {
                    int goal = other;
                    boolean due = blockers.contains(goal)
                        || blockers.stream().anyMatch(blocker -> x.dependsOn(blocker, goal));
                    is(story + " on " + other, due, x.dependsOn(story, other));
                }
            }
        });
    }

    static void noCircle() {
        sentence("No story depends on itself");
        forEachStory((x, story) -> {
            is("by searching", false, x.dependsOn(story, story));
            is("by the closure", false, x.dependsOnByClosure(story, story));
            is("both ways", false, x.dependsOn(story, 0) && x.dependsOn(0, story));
        });
    }

    static void twoWaysEach() {
        sentence("The class finds dependencies and predicts finish days in two ways each");
        forSomeBoards(x -> {
            is("consistent", true, x.isConsistent());
            int stories = Math.min(x.storyCount(), 10);
            for (int story = 0; story < stories; story++) {
                int number = story;
                is("the days of " + story, outcome(() -> x.finishDay(number)),
                    outcome(() -> x.finishDayByRecursion(number)));
                for (int other = 0; other < stories; other++) {
                    is(story + " on " + other, x.dependsOn(story, other), x.dependsOnByClosure(story, other));
                }
            }
        });
    }

    static void orderBehindBlockers() {
        sentence("17: each story comes after its blockers");
        forSomeBoards(x -> {
            List<Integer> order = new ArrayList<>();
            for (int position = 0; position < x.storyCount(); position++) {
                order.add(x.storyInOrder(position));
            }
            for (int position = 1; position < order.size(); position++) {
                for (int later = position; later < Math.min(order.size(), position + 3); later++) {
                    is("at " + position, false, x.isBlocker(order.get(position - 1), order.get(later)));
                }
            }
            Collections.sort(order);
            for (int story = 0; story < order.size(); story++) {
                is("each one once", story, order.get(story));
            }
        });
    }

    static void chainsThroughBlockers() {
        sentence("16: in which each story is a blocker of the next one");
        forSomeBoards(x -> {
            int stories = Math.min(x.storyCount(), 8);
            for (int story = 0; story < stories; story++) {
                int longest = 0;
                for (int blocker : blockersOf(x, story)) {
                    longest = Math.max(longest, x.longestChain(blocker));
                }
                is("one more than its blockers' longest", longest + 1, x.longestChain(story));
            }
        });
    }

    static void oneDeveloperOneStory() {
        sentence("is assigned to at most one story; a story has at most one developer");
        forSomeBoards(x -> {
            for (int developer = 0; developer < x.developerCount(); developer++) {
                int number = developer;
                if (outcome(() -> x.storyOf(number)) instanceof Integer story) {
                    is("its story's developer", developer, x.developerOf(story));
                    is("which is planned", true, x.isPlanned(story));
                    is("and not done", false, x.isDone(story));
                    is("in a sprint", true, x.isActive());
                }
            }
            for (int story = 0; story < x.storyCount(); story++) {
                int number = story;
                if (outcome(() -> x.developerOf(number)) instanceof Integer developer) {
                    is("its developer's story", story, x.storyOf(developer));
                }
            }
        });
    }

    static void daysThatWereForeseen() {
        sentence("42: Returns after how many days a story would be done, by letting days pass");
        forSomeBoards(TermsTest::comesTrue);
    }

    static void burnDownOfTheDay() {
        sentence("The burn-down is the number of points that are left of all planned stories");
        forSomeBoards(x -> {
            for (int day = 0; day < 10 && outcome(x::passDay) != STATE; day++) {
                is("at the end of the day", x.left(), x.burnDown(x.daysPassed()));
            }
            outcome(x::endSprint);
            if (outcome(() -> x.startSprint(1)) != STATE) {
                is("at the start of the sprint", x.left(), x.burnDown(0));
                is("39: ideally", (float) x.left(), x.idealBurnDown(0));
                is("37: no change yet", 0, x.scopeChange());
            }
        });
    }

    static void velocitiesInAll() {
        sentence("velocities of finished sprints");
        forSomeBoards(x -> {
            double sum = 0;
            for (int sprint = 0; sprint < x.sprintCount(); sprint++) {
                sum += x.velocityOf(sprint);
            }
            Object mean = x.sprintCount() == 0 ? ARITHMETIC : (Object) (sum / x.sprintCount());
            is("41: their mean", mean, outcome(x::meanVelocity));
        });
    }

    private static List<Integer> blockersOf(SprintBoard x, int story) {
        List<Integer> blockers = new ArrayList<>();
        int stories = x.storyCount();
        for (int blocker = 0; blocker < stories; blocker++) {
            if (x.isBlocker(story, blocker)) {
                blockers.add(blocker);
            }
        }
        return blockers;
    }

    /** In a sprint that is long enough each story with a finish day is done on that day and not before. */
    private static void comesTrue(SprintBoard x) {
        int stories = x.storyCount();
        Object[] due = new Object[stories];
        for (int story = 0; story < stories; story++) {
            int number = story;
            due[story] = outcome(() -> x.finishDay(number));
        }
        for (int day = 0; day == 0 || day <= 10 && outcome(x::passDay) != STATE; day++) {
            for (int story = 0; story < stories; story++) {
                boolean isDone = due[story] instanceof Integer days && days <= day;
                is("story " + story + " on day " + day + " of " + due[story], isDone, x.isDone(story));
            }
        }
    }

    private interface StoryCheck {
        void check(SprintBoard x, int story);
    }

    private static void forEachStory(StoryCheck check) {
        forSomeBoards(x -> {
            int stories = Math.min(x.storyCount(), 8);
            for (int story = 0; story < stories; story++) {
                check.check(x, story);
            }
        });
    }

    private static void forSomeBoards(Consumer<SprintBoard> check) {
        for (int number = 0; number < BOARDS; number++) {
            check.accept(modified(new Random(number)));
        }
    }

    private static SprintBoard modified(Random random) {
        SprintBoard x = new SprintBoard();
        int most = 2 + random.nextInt(random.nextBoolean() ? 4 : 15);
        for (int story = 0; story < most; story++) {
            x.addStory(ESTIMATES[random.nextInt(ESTIMATES.length)]);
        }
        for (int developer = random.nextInt(5); developer > 0; developer--) {
            x.addDeveloper(1 + random.nextInt(4));
        }
        int count = random.nextInt(MODIFICATIONS);
        for (int made = 0; made < count; made++) {
            outcome(() -> modify(x, random, random.nextInt(most), random.nextInt(most)));
        }
        if (random.nextInt(3) > 0) {
            fillTheSprint(x, random, most);
        }
        return x;
    }

    /** Gives each developer a story, so that some of them wait for one another. */
    private static void fillTheSprint(SprintBoard x, Random random, int stories) {
        outcome(() -> x.startSprint(10));
        for (int story = 0; story < stories; story++) {
            int number = story;
            outcome(() -> x.plan(number));
            outcome(() -> x.assign(number, number % 4));
            outcome(() -> x.block(number, random.nextInt(Math.min(stories, 4))));
        }
    }

    private static Object modify(SprintBoard x, Random random, int story, int other) {
        switch (random.nextInt(14)) {
            case 0: return x.reestimate(story, ESTIMATES[random.nextInt(ESTIMATES.length)]);
            case 1: case 2: return x.block(story, other);
            case 3: return x.unblock(story, other);
            case 4: case 5: case 6: return x.plan(story);
            case 7: return x.unplan(story);
            case 8: return x.startSprint(1 + random.nextInt(10));
            case 9: case 10: return x.assign(story, random.nextInt(4));
            case 11: return random.nextInt(4) == 0 ? x.unassign(random.nextInt(4)) : x.passDay();
            case 12: return random.nextInt(3) == 0 ? x.endSprint() : x.passDay();
            default: return x.undo();
        }
    }
}

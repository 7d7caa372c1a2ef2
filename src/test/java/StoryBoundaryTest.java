/** The boundary cases of stories and blockers, promises 1 to 17; their numbers are in NumberBoundaryTest. */
public final class StoryBoundaryTest extends Boards {
    private StoryBoundaryTest() {
    }

    public static void main(String[] arguments) throws IllegalAccessException {
        runAll(StoryBoundaryTest.class);
    }

    static void newBoard() {
        sentence("1: Creates a board without stories and developers, on which no sprint has started");
        SprintBoard x = new SprintBoard();
        is("stories", 0, x.storyCount());
        is("developers", 0, x.developerCount());
        is("sprints", 0, x.sprintCount());
        is("active", false, x.isActive());
        is("scope", 0, x.scope());
        is("left", 0, x.left());
        is("worked", 0, x.worked());
        is("order", FOUND, outcome(() -> x.storyInOrder(0)));
        is("days", FOUND, outcome(x::daysPassed));
        is("scope change", FOUND, outcome(x::scopeChange));
        is("mean", ARITHMETIC, outcome(x::meanVelocity));
        is("line", "", line(x));
        is("burn-down", 0, x.writeBurnDown());
        is("consistent", true, x.isConsistent());
    }

    static void newBoardsShareNothing() {
        sentence("1: Creates a board without stories and developers, on which no sprint has started");
        SprintBoard x = busy();
        is("beside another board", 0, new SprintBoard().storyCount());
        is("the other board", 4, x.storyCount());
    }

    static void noSuchEstimateToAdd() {
        sentence("2: Throws IllegalArgumentException if there is no such estimate");
        for (int points : NO_ESTIMATES) {
            refuses("points " + points, ARGUMENT, SprintBoard::new, x -> x.addStory(points));
            refuses("points " + points + " on a busy board", ARGUMENT, Boards::busy, x -> x.addStory(points));
        }
        for (int points : ESTIMATES) {
            is("points " + points, 0, new SprintBoard().addStory(points));
        }
    }

    static void sixteenStories() {
        sentence("2: Throws IllegalStateException if there are 16 stories");
        is("the first", 0, new SprintBoard().addStory(1));
        is("the last", 15, stories(15).addStory(13));
        for (int points : ESTIMATES) {
            refuses("one more of " + points, STATE, Boards::full, x -> x.addStory(points));
        }
        refuses("one more in a chain", STATE, Boards::chain, x -> x.addStory(1));
    }

    static void sixteenStoriesOnceMore() {
        sentence("2: numbered from 0 in the order in which they were added");
        SprintBoard x = full();
        x.plan(15);
        x.block(15, 0);
        x.undo();
        x.undo();
        x.undo();
        is("the last again", 15, x.addStory(8));
        is("its estimate", 8, x.estimateOf(15));
        is("its points left", 8, x.leftOf(15));
        is("not planned", false, x.isPlanned(15));
        is("not blocked", false, x.isBlocked(15));
        fails("one more again", STATE, () -> x.addStory(8));
    }

    static void noSuchEstimateToChangeTo() {
        sentence("3: Throws IllegalArgumentException if there is no such estimate");
        for (int points : NO_ESTIMATES) {
            refuses("points " + points, ARGUMENT, Boards::busy, x -> x.reestimate(0, points));
        }
        for (int points : ESTIMATES) {
            is("points " + points, points, board(5).reestimate(0, points));
        }
    }

    static void doneStoryIsNotReestimated() {
        sentence("3: Throws IllegalStateException if the story is done");
        for (int points : ESTIMATES) {
            refuses("by work, to " + points, STATE, Boards::busy, x -> x.reestimate(1, points));
        }
        SprintBoard x = working(8, 3);
        x.passDay();
        x.reestimate(0, 3);
        fails("by its estimate", STATE, () -> x.reestimate(0, 8));
        SprintBoard almost = working(5, 4);
        almost.passDay();
        is("with one point left", 9, almost.reestimate(0, 13));
    }

    static void workIsAtMostTheEstimate() {
        sentence("3: The points that are worked stay the same, but at most the new estimate");
        int[][] estimateWorkedLeft = {{1, 1, 0}, {2, 2, 0}, {3, 3, 0}, {5, 3, 2}, {8, 3, 5}, {13, 3, 10}};
        for (int[] due : estimateWorkedLeft) {
            SprintBoard x = working(8, 3);
            x.passDay();
            is("left of " + due[0], due[2], x.reestimate(0, due[0]));
            is("left afterwards of " + due[0], due[2], x.leftOf(0));
            is("worked of " + due[0], due[1], x.workedOn(0));
            is("worked in all of " + due[0], due[1], x.worked());
        }
        SprintBoard untouched = board(13);
        is("nothing worked", 1, untouched.reestimate(0, 1));
        is("still nothing worked", 0, untouched.workedOn(0));
    }

    static void developerOfWhatIsDoneByItsEstimate() {
        sentence("3: If no points are left then, its developer is no longer assigned");
        SprintBoard none = working(8, 3);
        none.passDay();
        none.reestimate(0, 3);
        fails("none left: developer", FOUND, () -> none.storyOf(0));
        fails("none left: story", FOUND, () -> none.developerOf(0));
        SprintBoard one = working(8, 2);
        one.passDay();
        is("one left", 1, one.reestimate(0, 3));
        is("one left: developer", 0, one.storyOf(0));
        is("one left: story", 0, one.developerOf(0));
        SprintBoard two = allWorking(3, new int[] {8, 8}, 1, 2);
        two.passDay();
        two.reestimate(0, 1);
        is("the other developer", 1, two.storyOf(1));
        fails("the one of the story", FOUND, () -> two.storyOf(0));
    }

    static void withoutDeveloperDoneByItsEstimate() {
        sentence("3: If no points are left then, its developer is no longer assigned");
        SprintBoard x = allWorking(3, new int[] {8, 8}, 1, 2);
        x.passDay();
        x.unassign(0);
        is("without a developer", 0, x.reestimate(0, 1));
        is("the other story's stays", 1, x.developerOf(1));
        is("done", true, x.isDone(0));
    }

    static void bothTheSame() {
        sentence("4: Throws IllegalArgumentException if both are the same");
        for (int story = 0; story < 4; story++) {
            int same = story;
            refuses("story " + same, ARGUMENT, Boards::busy, x -> x.block(same, same));
        }
        refuses("the last story", ARGUMENT, Boards::full, x -> x.block(15, 15));
    }

    static void blockerAlreadyOrDone() {
        sentence("4: Throws IllegalStateException if it is a blocker already, or the story is done");
        refuses("already", STATE, Boards::busy, x -> x.block(2, 0));
        refuses("done", STATE, Boards::busy, x -> x.block(1, 3));
        refuses("already, in a full board", STATE, Boards::chain, x -> x.block(14, 15));
        SprintBoard x = board(1, 1);
        x.block(0, 1);
        finish(x, 1);
        fails("already, the blocker is done", STATE, () -> x.block(0, 1));
        SprintBoard almost = working(5, 4);
        almost.addStory(1);
        almost.passDay();
        is("one point left", 1, almost.block(0, 1));
    }

    static void doneBlocker() {
        sentence("4: Returns the number of blockers of the story, done or not");
        SprintBoard x = board(1, 1, 1);
        finish(x, 1);
        is("a done one", 1, x.block(0, 1));
        is("and an open one", 2, x.block(0, 2));
    }

    static void fifteenBlockers() {
        sentence("4: Returns the number of blockers of the story, done or not");
        SprintBoard x = full();
        for (int blocker = 1; blocker < 16; blocker++) {
            is("blocker " + blocker, blocker, x.block(0, blocker));
        }
        is("all are open", 15, x.openBlockers(0));
        fails("each is one already", STATE, () -> x.block(0, 15));
        SprintBoard last = full();
        for (int blocker = 0; blocker < 15; blocker++) {
            is("blocker " + blocker + " of the last", blocker + 1, last.block(15, blocker));
        }
    }

    static void blockerDependsOnTheStory() {
        sentence("4: Throws UnsupportedOperationException if the blocker depends on the story");
        refuses("directly", SUPPORT, Boards::busy, x -> x.block(0, 2));
        for (int story = 1; story < 16; story++) {
            int number = story;
            refuses("from 0 to " + number, SUPPORT, Boards::chain, x -> x.block(number, 0));
        }
        SprintBoard x = chain();
        is("the other way is none", 2, x.block(0, 15));
        x.unblock(7, 8);
        is("cut in the middle, its end may be blocked", 1, x.block(15, 7));
        fails("which closes it again", SUPPORT, () -> x.block(7, 8));
    }

    static void blockerDependsThroughADoneOne() {
        sentence("4: Throws UnsupportedOperationException if the blocker depends on the story");
        SprintBoard x = working(8, 3);
        x.addStory(1);
        x.addStory(1);
        x.passDay();
        x.block(0, 1);
        x.block(2, 0);
        x.reestimate(0, 1);
        is("the one between is done", true, x.isDone(0));
        fails("through it", SUPPORT, () -> x.block(1, 2));
    }

    static void twoWaysAreNoCircle() {
        sentence("4: Adds a blocker to a story");
        SprintBoard x = stories(4);
        x.block(0, 1);
        x.block(0, 2);
        is("the first way", 1, x.block(1, 3));
        is("the second way", 1, x.block(2, 3));
        is("the short way", 3, x.block(0, 3));
    }

    static void notABlocker() {
        sentence("5: Throws IllegalStateException if it is not a blocker of the story");
        refuses("never", STATE, Boards::busy, x -> x.unblock(0, 3));
        refuses("the other way", STATE, Boards::busy, x -> x.unblock(0, 2));
        refuses("itself", STATE, Boards::busy, x -> x.unblock(2, 2));
        refuses("of a done story", STATE, Boards::busy, x -> x.unblock(1, 0));
        refuses("indirectly", STATE, Boards::chain, x -> x.unblock(0, 2));
        refuses("no more", STATE, () -> after(Boards::busy, x -> x.unblock(2, 0)), x -> x.unblock(2, 0));
    }

    static void blockersLeft() {
        sentence("5: Returns the number of blockers that are left, done or not");
        SprintBoard x = full();
        for (int blocker = 1; blocker < 16; blocker++) {
            x.block(0, blocker);
        }
        for (int blocker = 15; blocker > 0; blocker--) {
            is("without " + blocker, blocker - 1, x.unblock(0, blocker));
        }
        is("the last one is gone", false, x.isBlocked(0));
        SprintBoard done = board(1, 1, 1);
        done.block(0, 1);
        done.block(0, 2);
        finish(done, 1);
        is("a done one is left", 1, done.unblock(0, 2));
        is("a done one is taken", 0, done.unblock(0, 1));
    }

    static void doneStoryIsUnblocked() {
        sentence("5: Removes a blocker from a story");
        SprintBoard x = working(8, 3);
        x.addStory(1);
        x.passDay();
        x.block(0, 1);
        x.reestimate(0, 1);
        is("a done story by an open one", 0, x.unblock(0, 1));
        is("11: then it is not blocked", false, x.isBlocked(0));
    }

    static void storyCount() {
        sentence("6: Returns the number of stories");
        is("none", 0, new SprintBoard().storyCount());
        is("one", 1, stories(1).storyCount());
        is("sixteen", 16, full().storyCount());
        is("done ones count", 4, busy().storyCount());
    }

    static void pointsOfANewStory() {
        sentence("8: a number of points that are left, which is the estimate at first");
        for (int points : ESTIMATES) {
            SprintBoard x = board(points);
            is("7: estimate " + points, points, x.estimateOf(0));
            is("left of " + points, points, x.leftOf(0));
            is("9: worked on " + points, 0, x.workedOn(0));
            is("10: done " + points, false, x.isDone(0));
        }
    }

    static void lastPoint() {
        sentence("10: A story is done if no points are left");
        SprintBoard x = working(5, 2);
        x.passDay();
        x.passDay();
        is("8: one is left", 1, x.leftOf(0));
        is("9: all but one", 4, x.workedOn(0));
        is("one is left", false, x.isDone(0));
        x.passDay();
        is("8: none is left", 0, x.leftOf(0));
        is("9: all", 5, x.workedOn(0));
        is("7: the estimate stays", 5, x.estimateOf(0));
        is("none is left", true, x.isDone(0));
    }

    static void lastOpenBlocker() {
        sentence("11: A story is blocked if at least one of its blockers is not done");
        SprintBoard x = board(1, 1, 1);
        is("no blockers", false, x.isBlocked(0));
        is("12: no blockers", 0, x.openBlockers(0));
        x.block(0, 1);
        x.block(0, 2);
        finish(x, 2);
        is("one of two", true, x.isBlocked(0));
        is("12: one of two", 1, x.openBlockers(0));
        finish(x, 1);
        is("none of two", false, x.isBlocked(0));
        is("12: none of two", 0, x.openBlockers(0));
        x.undo();
        x.undo();
        is("none done but for undo", true, x.isBlocked(0));
    }

    static void blockedByWhatIsBlocked() {
        sentence("11: A story is blocked if at least one of its blockers is not done");
        SprintBoard x = working(8, 3);
        x.addStory(1);
        x.addStory(1);
        x.passDay();
        x.block(0, 1);
        x.block(2, 0);
        x.reestimate(0, 2);
        is("by a done one that is blocked", false, x.isBlocked(2));
        is("12: by a done one that is blocked", 0, x.openBlockers(2));
        is("a done one by an open one", true, x.isBlocked(0));
        is("12: a done one by an open one", 1, x.openBlockers(0));
    }

    static void fifteenOpenBlockers() {
        sentence("12: Returns the number of blockers of a story that are not done");
        SprintBoard x = full();
        for (int blocker = 0; blocker < 15; blocker++) {
            x.block(15, blocker);
        }
        is("all", 15, x.openBlockers(15));
        finish(x, 0);
        is("all but the first", 14, x.openBlockers(15));
        finish(x, 14);
        is("all but the first and the last", 13, x.openBlockers(15));
        is("11: of a blocker", 0, x.openBlockers(1));
    }

    static void blockerOfItself() {
        sentence("13: Returns whether a story is a blocker of another one");
        SprintBoard x = chain();
        is("itself", false, x.isBlocker(0, 0));
        is("the last itself", false, x.isBlocker(15, 15));
        is("the first link", true, x.isBlocker(0, 1));
        is("the last link", true, x.isBlocker(14, 15));
        is("the other way", false, x.isBlocker(15, 14));
        is("over one", false, x.isBlocker(13, 15));
        is("round the end", false, x.isBlocker(15, 0));
    }

    static void dependenceOnItself() {
        sentence("14: No story depends on itself");
        SprintBoard x = chain();
        for (int story = 0; story < 16; story++) {
            is("story " + story, false, x.dependsOn(story, story));
            is("15: story " + story, false, x.dependsOnByClosure(story, story));
        }
        is("a story alone", false, stories(1).dependsOn(0, 0));
        is("15: a story alone", false, stories(1).dependsOnByClosure(0, 0));
    }

    static void longestDependence() {
        sentence("14: depends on another one if that one is a blocker of it, or a blocker of it depends on that one");
        for (int other = 1; other < 16; other++) {
            SprintBoard x = chain();
            is("0 on " + other, true, x.dependsOn(0, other));
            is("15: 0 on " + other, true, x.dependsOnByClosure(0, other));
            is(other + " on 0", false, x.dependsOn(other, 0));
            is("15: " + other + " on 0", false, x.dependsOnByClosure(other, 0));
        }
        SprintBoard x = full();
        for (int story = 1; story < 16; story++) {
            x.block(story, story - 1);
        }
        is("the last on the first", true, x.dependsOn(15, 0));
        is("15: the last on the first", true, x.dependsOnByClosure(15, 0));
        is("the first on the last", false, x.dependsOn(0, 15));
        is("15: the first on the last", false, x.dependsOnByClosure(0, 15));
    }

    static void dependenceThroughADoneOne() {
        sentence("14: depends on another one if that one is a blocker of it, or a blocker of it depends on that one");
        SprintBoard x = working(8, 3);
        x.addStory(1);
        x.addStory(1);
        x.passDay();
        x.block(0, 1);
        x.block(2, 0);
        x.reestimate(0, 1);
        is("through it", true, x.dependsOn(2, 1));
        is("15: through it", true, x.dependsOnByClosure(2, 1));
        is("on it", true, x.dependsOn(2, 0));
        is("15: on it", true, x.dependsOnByClosure(2, 0));
        is("from it", true, x.dependsOn(0, 1));
        is("15: from it", true, x.dependsOnByClosure(0, 1));
        is("16: through it", 3, x.longestChain(2));
        is("17: behind it", 2, x.storyInOrder(2));
    }

    static void dependenceCutInTwo() {
        sentence("15: Returns the same as dependsOn, from the transitive closure of all blockers");
        SprintBoard x = chain();
        x.unblock(7, 8);
        is("14: over the cut", false, x.dependsOn(0, 15));
        is("over the cut", false, x.dependsOnByClosure(0, 15));
        is("14: before the cut", true, x.dependsOn(0, 7));
        is("before the cut", true, x.dependsOnByClosure(0, 7));
        is("14: behind the cut", true, x.dependsOn(8, 15));
        is("behind the cut", true, x.dependsOnByClosure(8, 15));
        x.undo();
        is("14: undone", true, x.dependsOn(0, 15));
        is("undone", true, x.dependsOnByClosure(0, 15));
    }

    static void shortestAndLongestChain() {
        sentence("16: Returns the number of stories in the chain, at least 1");
        is("a story alone", 1, stories(1).longestChain(0));
        SprintBoard x = chain();
        for (int story = 0; story < 16; story++) {
            is("from " + story, 16 - story, x.longestChain(story));
        }
        x.unblock(14, 15);
        is("one less", 15, x.longestChain(0));
        is("what blocks nothing", 1, x.longestChain(15));
    }

    static void longerOfTwoChains() {
        sentence("16: Returns the length of the longest chain of stories that ends with a story");
        SprintBoard x = stories(6);
        x.block(0, 1);
        x.block(0, 2);
        x.block(2, 3);
        x.block(3, 4);
        is("through the second blocker", 4, x.longestChain(0));
        x.block(0, 4);
        is("past a shorter way to the same end", 4, x.longestChain(0));
        x.block(4, 5);
        is("one longer", 5, x.longestChain(0));
        finish(x, 5);
        is("a done one counts", 5, x.longestChain(0));
    }

    static void orderOfAll() {
        sentence("17: the story with the lowest number whose blockers all came before is always the next one");
        SprintBoard x = chain();
        SprintBoard free = full();
        for (int position = 0; position < 16; position++) {
            is("all blocked, position " + position, 15 - position, x.storyInOrder(position));
            is("none blocked, position " + position, position, free.storyInOrder(position));
        }
        is("one story alone", 0, stories(1).storyInOrder(0));
    }

    static void orderGoesBack() {
        sentence("17: the story with the lowest number whose blockers all came before is always the next one");
        SprintBoard x = stories(6);
        x.block(0, 3);
        x.block(1, 0);
        x.block(2, 4);
        x.block(2, 1);
        int[] due = {3, 0, 1, 4, 2, 5};
        for (int position = 0; position < due.length; position++) {
            is("position " + position, due[position], x.storyInOrder(position));
        }
        finish(x, 3);
        is("a done blocker comes before too", 3, x.storyInOrder(0));
    }
}

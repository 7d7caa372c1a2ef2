/** The boundary cases of developers, promises 18 to 24; their numbers are in NumberBoundaryTest. */
public final class DeveloperBoundaryTest extends Boards {
    private static final int[] NO_SPEEDS = {Integer.MIN_VALUE, -4, -1, 0, 5, 6, 10, 257, 65540, Integer.MAX_VALUE};

    private DeveloperBoundaryTest() {
    }

    public static void main(String[] arguments) throws IllegalAccessException {
        runAll(DeveloperBoundaryTest.class);
    }

    static void speedOutOfRange() {
        sentence("18: Throws IllegalArgumentException if the speed is out of range");
        for (int speed : NO_SPEEDS) {
            refuses("speed " + speed, ARGUMENT, SprintBoard::new, x -> x.addDeveloper(speed));
            refuses("speed " + speed + " on a busy board", ARGUMENT, Boards::busy, x -> x.addDeveloper(speed));
        }
        for (int speed = 1; speed <= 4; speed++) {
            SprintBoard x = new SprintBoard();
            is("speed " + speed, 0, x.addDeveloper(speed));
            is("22: speed " + speed, speed, x.speedOf(0));
        }
    }

    static void fourDevelopers() {
        sentence("18: Throws IllegalStateException if there are 4 developers");
        is("the last", 3, developers(1, 2, 3).addDeveloper(4));
        for (int speed = 1; speed <= 4; speed++) {
            int one = speed;
            refuses("one more of " + one, STATE, () -> developers(1, 2, 3, 4), x -> x.addDeveloper(one));
        }
    }

    static void fourDevelopersOnceMore() {
        sentence("18: Adds a developer who is not assigned");
        SprintBoard x = allWorking(3, new int[] {8, 8, 8, 8}, 1, 2, 3, 4);
        x.undo();
        x.undo();
        is("the last again", 3, x.addDeveloper(1));
        is("22: its speed", 1, x.speedOf(3));
        fails("23: not assigned", FOUND, () -> x.storyOf(3));
        fails("24: nor is the story", FOUND, () -> x.developerOf(3));
        is("a developer who comes on a later day works", false, x.assign(3, 3));
        is("21: all", 4, x.developerCount());
    }

    static void noSprintIsActive() {
        sentence("19: Throws UnsupportedOperationException if no sprint is active");
        refuses("never", SUPPORT, () -> planned(1), x -> x.assign(0, 0));
        refuses("no more", SUPPORT, () -> after(Boards::busy, x -> {
            x.endSprint();
            x.plan(0);
        }), x -> x.assign(0, 0));
        refuses("no more, undone", SUPPORT, () -> after(() -> planned(1), x -> {
            x.startSprint(1);
            x.undo();
        }), x -> x.assign(0, 0));
    }

    static void storyThatCannotBeAssigned() {
        sentence("19: Throws IllegalStateException if the story is not planned, is done or has a developer, "
            + "or the developer is assigned");
        refuses("not planned", STATE, Boards::busy, x -> x.assign(3, 2));
        refuses("has a developer", STATE, Boards::busy, x -> x.assign(0, 2));
        refuses("has a developer and is blocked", STATE, Boards::busy, x -> x.assign(2, 2));
        refuses("the developer is assigned", STATE, () -> after(Boards::busy, x -> x.plan(3)), x -> x.assign(3, 0));
        refuses("both are, to one another", STATE, Boards::busy, x -> x.assign(0, 0));
        refuses("planned no more", STATE, () -> after(Boards::busy, x -> {
            x.plan(3);
            x.unplan(3);
        }), x -> x.assign(3, 2));
    }

    static void doneStoryThatIsPlanned() {
        sentence("19: Throws IllegalStateException if the story is not planned, is done or has a developer, "
            + "or the developer is assigned");
        refuses("planned and done", STATE, () -> after(() -> working(3, 4), SprintBoard::passDay), x -> x.assign(0, 0));
        SprintBoard x = working(5, 4);
        x.passDay();
        x.unassign(0);
        is("one point left", false, x.assign(0, 0));
    }

    static void assignmentOnTheLastDays() {
        sentence("19: Assigns a developer to a story");
        SprintBoard x = planned(1);
        x.startSprint(1);
        x.passDay();
        is("all days have passed", false, x.assign(0, 0));
        is("23: then", 0, x.storyOf(0));
    }

    static void returnsWhetherItIsBlocked() {
        sentence("19: Returns whether the story is blocked");
        SprintBoard x = board(1, 1, 5);
        finish(x, 0);
        x.plan(2);
        x.startSprint(5);
        is("no blockers", false, x.assign(2, 0));
        x.unassign(0);
        x.block(2, 0);
        is("a done one", false, x.assign(2, 0));
        x.unassign(0);
        x.block(2, 1);
        is("an open one beside it", true, x.assign(2, 0));
    }

    static void fullTeamAssigned() {
        sentence("19: is assigned to at most one story; a story has at most one developer");
        SprintBoard x = allWorking(3, new int[] {8, 8, 8, 8, 8}, 1, 2, 3, 4);
        for (int number = 0; number < 4; number++) {
            int developer = number;
            is("23: of developer " + number, number, x.storyOf(number));
            is("24: of story " + number, number, x.developerOf(number));
            fails("a second story for " + number, STATE, () -> x.assign(4, developer));
        }
        x.unassign(3);
        fails("a second developer", STATE, () -> x.assign(0, 3));
        is("a free one for a free story", false, x.assign(4, 3));
    }

    static void notAssigned() {
        sentence("20: Throws IllegalStateException if the developer is not assigned");
        refuses("never", STATE, Boards::busy, x -> x.unassign(2));
        refuses("no more", STATE, () -> after(Boards::busy, x -> x.unassign(0)), x -> x.unassign(0));
        refuses("the sprint has ended", STATE, () -> after(Boards::busy, SprintBoard::endSprint),
            x -> x.unassign(0));
        refuses("the story is done", STATE, () -> after(() -> working(3, 4), SprintBoard::passDay),
            x -> x.unassign(0));
        is("the first story", 0, busy().unassign(0));
        is("a blocked story", 2, busy().unassign(1));
    }

    static void unassignedInTheMiddle() {
        sentence("20: Ends the assignment of a developer");
        SprintBoard x = working(8, 3);
        x.passDay();
        x.unassign(0);
        is("no work without a developer", 0, x.passDay());
        is("8: the points stay", 5, x.leftOf(0));
        is("still planned", true, x.isPlanned(0));
        x.assign(0, 0);
        x.passDay();
        is("8: work goes on", 2, x.leftOf(0));
    }

    static void developerCount() {
        sentence("21: Returns the number of developers");
        is("none", 0, new SprintBoard().developerCount());
        is("one", 1, developers(1).developerCount());
        is("four", 4, developers(1, 1, 1, 1).developerCount());
        is("assigned or not", 3, busy().developerCount());
    }

    static void assignedToNone() {
        sentence("23: Throws NoSuchElementException if the developer is not assigned");
        refuses("a free one", FOUND, Boards::busy, x -> x.storyOf(2));
        refuses("never", FOUND, () -> developers(1), x -> x.storyOf(0));
        refuses("the sprint has ended", FOUND, () -> after(Boards::busy, SprintBoard::endSprint), x -> x.storyOf(1));
        refuses("the story is done", FOUND, () -> after(() -> working(3, 4), SprintBoard::passDay), x -> x.storyOf(0));
        is("one point is left", 0, after(() -> working(5, 4), SprintBoard::passDay).storyOf(0));
    }

    static void storyWithoutDeveloper() {
        sentence("24: Throws NoSuchElementException if the story has no developer");
        refuses("done", FOUND, Boards::busy, x -> x.developerOf(1));
        refuses("not planned", FOUND, Boards::busy, x -> x.developerOf(3));
        refuses("planned", FOUND, () -> planned(1), x -> x.developerOf(0));
        refuses("without a team", FOUND, Boards::full, x -> x.developerOf(15));
        refuses("taken off", FOUND, () -> after(Boards::busy, x -> x.unassign(1)), x -> x.developerOf(2));
        is("the first developer", 0, busy().developerOf(0));
        is("of a blocked story", 1, busy().developerOf(2));
    }

    private static SprintBoard planned(int speed) {
        SprintBoard x = board(5);
        x.addDeveloper(speed);
        x.plan(0);
        return x;
    }
}

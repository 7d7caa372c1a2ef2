import java.util.function.Supplier;

/** The boundary cases of sprints, promises 25 to 43; their numbers are in NumberBoundaryTest. */
public final class SprintBoundaryTest extends Boards {
    private static final int[] NO_LENGTHS = {Integer.MIN_VALUE, -10, -1, 0, 11, 12, 257, 65546, Integer.MAX_VALUE};

    private SprintBoundaryTest() {
    }

    public static void main(String[] arguments) throws IllegalAccessException {
        runAll(SprintBoundaryTest.class);
    }

    static void plannedOrDone() {
        sentence("25: Throws IllegalStateException if it is planned or done");
        refuses("planned", STATE, Boards::busy, x -> x.plan(0));
        refuses("done", STATE, Boards::busy, x -> x.plan(1));
        refuses("planned and done", STATE, () -> after(() -> working(3, 4), SprintBoard::passDay), x -> x.plan(0));
        is("one point left", 5, after(() -> working(5, 4), x -> {
            x.passDay();
            x.unassign(0);
            x.unplan(0);
        }).plan(0));
    }

    static void allPlanned() {
        sentence("25: Returns the scope afterwards");
        SprintBoard x = new SprintBoard();
        for (int story = 0; story < 16; story++) {
            x.addStory(13);
            is("with story " + story, 13 * (story + 1), x.plan(story));
        }
        is("34: the greatest scope", 208, x.scope());
        is("35: all is left", 208, x.left());
        is("a blocked one and an unblocked one", 2, after(() -> stories(2), y -> {
            y.block(0, 1);
            y.plan(0);
        }).plan(1));
    }

    static void beforeOrAfterTheStart() {
        sentence("25: Stories are planned for the sprint, before or after it starts");
        SprintBoard x = board(1, 2, 5);
        is("before", 1, x.plan(0));
        x.startSprint(1);
        is("after", 3, x.plan(1));
        x.passDay();
        is("when all days have passed", 8, x.plan(2));
        x.endSprint();
        is("after the end", 2, x.plan(1));
    }

    static void notPlannedOrHasADeveloper() {
        sentence("26: Throws IllegalStateException if it is not planned or has a developer");
        refuses("not planned", STATE, Boards::busy, x -> x.unplan(3));
        refuses("done in an earlier sprint", STATE, Boards::busy, x -> x.unplan(1));
        refuses("has a developer", STATE, Boards::busy, x -> x.unplan(0));
        refuses("is blocked and has a developer", STATE, Boards::busy, x -> x.unplan(2));
        refuses("no more", STATE, () -> after(() -> stories(1), x -> {
            x.plan(0);
            x.unplan(0);
        }), x -> x.unplan(0));
        refuses("the sprint has ended", STATE, () -> after(Boards::busy, SprintBoard::endSprint), x -> x.unplan(0));
    }

    static void nonePlannedAnyMore() {
        sentence("26: Returns the scope afterwards");
        SprintBoard x = allWorking(2, new int[] {3, 13}, 4);
        x.passDay();
        is("a done one", 13, x.unplan(0));
        is("the last", 0, x.unplan(1));
        is("34: none", 0, x.scope());
        is("the story is planned again", 13, x.plan(1));
    }

    static void lengthOutOfRange() {
        sentence("27: Throws IllegalArgumentException if the length is out of range");
        for (int days : NO_LENGTHS) {
            refuses("length " + days, ARGUMENT, SprintBoard::new, x -> x.startSprint(days));
            refuses("length " + days + " after another", ARGUMENT,
                () -> after(Boards::busy, SprintBoard::endSprint), x -> x.startSprint(days));
        }
    }

    static void everyLength() {
        sentence("27: A sprint has a length of 1 to 10 days");
        for (int days = 1; days <= 10; days++) {
            SprintBoard x = new SprintBoard();
            is("length " + days, 0, x.startSprint(days));
            pass(x, days);
            is("32: days of " + days, days, x.daysPassed());
            is("39: the last day of " + days, 0f, x.idealBurnDown(days));
            fails("28: one day more than " + days, STATE, x::passDay);
        }
    }

    static void activeOrNineSprints() {
        sentence("27: Throws IllegalStateException if a sprint is active, or there were 9 sprints");
        refuses("is active", STATE, Boards::busy, x -> x.startSprint(3));
        refuses("is active, all days have passed", STATE, () -> after(Boards::busy, x -> pass(x, 2)),
            x -> x.startSprint(1));
        for (int days : new int[] {1, 10}) {
            refuses("there were nine, length " + days, STATE, () -> ended(9), x -> x.startSprint(days));
        }
        refuses("the ninth is active", STATE, () -> after(() -> ended(8), x -> x.startSprint(1)),
            x -> x.startSprint(1));
    }

    static void ninthSprint() {
        sentence("27: Sprints are numbered from 0; there are at most 9 sprints");
        SprintBoard x = new SprintBoard();
        for (int sprint = 0; sprint < 9; sprint++) {
            is("number", sprint, x.startSprint(10));
            x.passDay();
            x.endSprint();
        }
        is("31: all", 9, x.sprintCount());
        x.undo();
        is("the ninth goes on", true, x.isActive());
        is("29: the ninth ends again", 0, x.endSprint());
        x.undo();
        x.undo();
        x.undo();
        is("the ninth starts again", 8, x.startSprint(1));
    }

    static void planAfterTheNinthSprint() {
        sentence("25: Plans a story for the sprint");
        SprintBoard x = ended(9);
        x.addStory(5);
        is("though there is none to come", 5, x.plan(0));
        is("36: nothing worked", 0, x.worked());
    }

    static void noDayIsLeft() {
        sentence("28: Throws IllegalStateException if no sprint is active, or all of its days have passed");
        refuses("never active", STATE, SprintBoard::new, SprintBoard::passDay);
        refuses("has ended", STATE, () -> after(Boards::busy, SprintBoard::endSprint), SprintBoard::passDay);
        refuses("all have passed", STATE, () -> after(Boards::busy, x -> pass(x, 2)), SprintBoard::passDay);
        refuses("the only day has passed", STATE, () -> after(SprintBoard::new, x -> {
            x.startSprint(1);
            x.passDay();
        }), SprintBoard::passDay);
        is("the last day", 1, after(Boards::busy, SprintBoard::passDay).passDay());
    }

    static void noneOrAllBecomeDone() {
        sentence("28: Returns the number of stories that become done");
        is("without stories", 0, after(SprintBoard::new, x -> x.startSprint(1)).passDay());
        is("none of one", 0, working(5, 4).passDay());
        SprintBoard x = allWorking(2, new int[] {1, 2, 3, 3}, 1, 2, 3, 4);
        is("all of four", 4, x.passDay());
        is("those that were done do not count", 0, x.passDay());
        SprintBoard none = board(1);
        none.plan(0);
        none.startSprint(1);
        is("without developers", 0, none.passDay());
    }

    static void notBelowZero() {
        sentence("28: the points that are left decrease by the speed, but not below 0");
        for (int speed = 1; speed <= 4; speed++) {
            for (int points : ESTIMATES) {
                SprintBoard x = working(points, speed);
                int due = Math.max(points - speed, 0);
                is(points + " at speed " + speed + " becomes done", due == 0 ? 1 : 0, x.passDay());
                is("8: left of " + points + " at speed " + speed, due, x.leftOf(0));
                is("38: burn-down", due, x.burnDown(1));
                Object assigned = due == 0 ? FOUND : (Object) 0;
                is("23: its developer is assigned only if points are left", assigned, outcome(() -> x.storyOf(0)));
            }
        }
    }

    static void blockedAtTheBeginningOfTheDay() {
        sentence("28: each developer who is assigned to a story that was not blocked at the beginning of the day "
            + "works on it");
        for (int blocked = 0; blocked < 2; blocked++) {
            int story = blocked;
            SprintBoard x = allWorking(3, new int[] {1, 1}, 4, 4);
            x.block(story, 1 - story);
            is("only the blocker of " + story, 1, x.passDay());
            is("8: no work on " + story, 1, x.leftOf(story));
            is("23: still assigned to " + story, story, x.storyOf(story));
            is("the day after", 1, x.passDay());
            is("10: then it is done", true, x.isDone(story));
        }
        SprintBoard crossed = board(1, 1);
        crossed.addDeveloper(4);
        crossed.addDeveloper(4);
        crossed.plan(0);
        crossed.plan(1);
        crossed.startSprint(1);
        crossed.assign(1, 0);
        crossed.assign(0, 1);
        crossed.block(0, 1);
        is("the blocker's developer comes first", 1, crossed.passDay());
        is("8: no work on that day", 1, crossed.leftOf(0));
    }

    static void blockedOnlyForSomeDays() {
        sentence("28: each developer who is assigned to a story that was not blocked at the beginning of the day "
            + "works on it");
        SprintBoard x = working(13, 2);
        x.addStory(1);
        x.passDay();
        x.block(0, 1);
        x.passDay();
        is("8: blocked after it began", 11, x.leftOf(0));
        x.unblock(0, 1);
        x.passDay();
        is("8: unblocked on the day before", 9, x.leftOf(0));
        int[] burnDowns = {13, 11, 11, 9};
        for (int day = 0; day < burnDowns.length; day++) {
            is("38: day " + day, burnDowns[day], x.burnDown(day));
        }
    }

    static void noSprintToEnd() {
        sentence("29: Throws IllegalStateException if no sprint is active");
        refuses("never", STATE, SprintBoard::new, SprintBoard::endSprint);
        refuses("planned only", STATE, () -> after(() -> stories(1), x -> x.plan(0)), SprintBoard::endSprint);
        refuses("has ended", STATE, () -> after(Boards::busy, SprintBoard::endSprint), SprintBoard::endSprint);
        refuses("there were nine", STATE, () -> ended(9), SprintBoard::endSprint);
    }

    static void endOnAnyDay() {
        sentence("29: Ends the sprint, whether all of its days have passed or not");
        for (int days = 0; days <= 10; days++) {
            SprintBoard x = working(13, 2);
            pass(x, days);
            is("after " + days, days >= 7 ? 13 : 0, x.endSprint());
            is("30: after " + days, false, x.isActive());
            is("33: after " + days, false, x.isPlanned(0));
            fails("23: after " + days, FOUND, () -> x.storyOf(0));
            is("8: after " + days, Math.max(13 - 2 * days, 0), x.leftOf(0));
        }
    }

    static void smallestAndGreatestVelocity() {
        sentence("29: its velocity, the sum of the estimates of the planned stories that are done");
        is("without stories", 0, after(SprintBoard::new, x -> x.startSprint(1)).endSprint());
        is("worked but not done", 0, after(() -> working(5, 4), SprintBoard::passDay).endSprint());
        is("all four", 16, after(() -> allWorking(2, new int[] {3, 5, 3, 5}, 4, 4, 4, 4), x -> pass(x, 2)).endSprint());
        is("a done one that was taken out", 0, after(() -> working(3, 4), x -> {
            x.passDay();
            x.unplan(0);
        }).endSprint());
        is("done by its estimate", 2, after(() -> working(8, 3), x -> {
            x.passDay();
            x.reestimate(0, 2);
        }).endSprint());
    }

    static void doneBeforeItsSprintStarts() {
        sentence("29: its velocity, the sum of the estimates of the planned stories that are done");
        SprintBoard x = working(8, 3);
        x.passDay();
        x.endSprint();
        x.plan(0);
        x.reestimate(0, 3);
        x.startSprint(1);
        is("38: nothing was left at the start", 0, x.burnDown(0));
        is("34: its scope", 3, x.scope());
        is("a planned one", 3, x.endSprint());
    }

    static void workedOnBeforeItsSprintStarts() {
        sentence("37: Returns by how much the scope has changed since the start of the active sprint");
        SprintBoard x = working(8, 3);
        x.passDay();
        x.endSprint();
        x.plan(0);
        x.startSprint(5);
        is("none at the start", 0, x.scopeChange());
        is("38: the points left at the start", 5, x.burnDown(0));
        is("39: the burn-down for day 0", 5f, x.idealBurnDown(0));
        is("39: a day of it", 4f, x.idealBurnDown(1));
        is("36: worked", 3, x.worked());
    }

    static void activeFromStartToEnd() {
        sentence("30: Returns whether a sprint has started that has not ended");
        SprintBoard x = new SprintBoard();
        is("never", false, x.isActive());
        x.startSprint(1);
        is("started", true, x.isActive());
        x.passDay();
        is("all days have passed", true, x.isActive());
        x.endSprint();
        is("ended", false, x.isActive());
        is("the ninth has ended", false, ended(9).isActive());
    }

    static void sprintCount() {
        sentence("31: Returns the number of sprints that have ended");
        is("none", 0, new SprintBoard().sprintCount());
        is("the active one does not count", 1, busy().sprintCount());
        is("nine", 9, ended(9).sprintCount());
    }

    static void daysOfNoSprint() {
        sentence("32: Throws NoSuchElementException if no sprint is active");
        refuses("never", FOUND, SprintBoard::new, SprintBoard::daysPassed);
        refuses("ended", FOUND, () -> after(Boards::busy, SprintBoard::endSprint), SprintBoard::daysPassed);
        SprintBoard x = new SprintBoard();
        x.startSprint(10);
        for (int day = 0; day <= 10; day++) {
            is("day", day, x.daysPassed());
            outcome(x::passDay);
        }
        is("never more than its length", 10, x.daysPassed());
        x.endSprint();
        x.startSprint(10);
        is("from 0 again", 0, x.daysPassed());
    }

    static void plannedStories() {
        sentence("33: Returns whether it is planned");
        SprintBoard x = full();
        is("none", false, x.isPlanned(15));
        x.plan(15);
        is("the last", true, x.isPlanned(15));
        is("not the first", false, x.isPlanned(0));
        x.plan(0);
        is("the first", true, x.isPlanned(0));
        x.unplan(15);
        is("the last no more", false, x.isPlanned(15));
        is("a done one", true, after(() -> working(3, 4), SprintBoard::passDay).isPlanned(0));
    }

    static void scopeOfDoneOnes() {
        sentence("34: The scope is the sum of the estimates of all planned stories, done or not");
        SprintBoard x = allWorking(10, new int[] {3, 5}, 3, 3);
        x.addStory(13);
        x.passDay();
        is("one is done", 8, x.scope());
        is("35: one is done", 2, x.left());
        is("36: one is done", 6, x.worked());
        x.passDay();
        is("all are done", 8, x.scope());
        is("35: all are done", 0, x.left());
        is("36: all are done", 8, x.worked());
        x.endSprint();
        is("none is planned", 0, x.scope());
        is("35: none is planned", 0, x.left());
        is("36: none is planned", 0, x.worked());
    }

    static void scopeChangeOfNoSprint() {
        sentence("37: Throws NoSuchElementException if no sprint is active");
        refuses("never", FOUND, () -> after(() -> board(5), x -> x.plan(0)), SprintBoard::scopeChange);
        refuses("ended", FOUND, () -> after(Boards::busy, SprintBoard::endSprint), SprintBoard::scopeChange);
    }

    static void greatestScopeChanges() {
        sentence("37: Returns the scope now minus the scope then, which can be negative");
        SprintBoard x = new SprintBoard();
        for (int story = 0; story < 16; story++) {
            x.addStory(13);
        }
        x.startSprint(10);
        is("none at first", 0, x.scopeChange());
        for (int story = 0; story < 16; story++) {
            x.plan(story);
        }
        is("all are planned", 208, x.scopeChange());
        x.endSprint();
        for (int story = 0; story < 16; story++) {
            x.plan(story);
        }
        x.startSprint(10);
        is("none at the next start", 0, x.scopeChange());
        for (int story = 0; story < 16; story++) {
            x.unplan(story);
        }
        is("all are taken out", -208, x.scopeChange());
    }

    static void scopeChangeByEstimates() {
        sentence("37: Returns by how much the scope has changed since the start of the active sprint");
        SprintBoard x = working(8, 4);
        x.reestimate(0, 1);
        is("a smaller estimate", -7, x.scopeChange());
        x.reestimate(0, 13);
        is("a greater one", 5, x.scopeChange());
        x.reestimate(0, 8);
        is("and back", 0, x.scopeChange());
        pass(x, 2);
        is("done", 0, x.scopeChange());
    }

    static void burnDownAsRecordedThen() {
        sentence("38: for day 0 at the start of the sprint, and for later days at the end of the day, as recorded "
            + "then");
        SprintBoard x = working(13, 4);
        x.addStory(8);
        x.plan(1);
        is("day 0, planned after the start", 13, x.burnDown(0));
        x.passDay();
        x.unplan(1);
        x.reestimate(0, 8);
        is("day 0", 13, x.burnDown(0));
        is("day 1, though one was taken out", 17, x.burnDown(1));
        x.passDay();
        is("day 2", 0, x.burnDown(2));
        pass(x, 8);
        is("the last day", 0, x.burnDown(10));
        x.endSprint();
        x.plan(1);
        x.startSprint(1);
        is("day 0 of the next sprint", 8, x.burnDown(0));
    }

    static void burnDownOfNothing() {
        sentence("38: The burn-down is the number of points that are left of all planned stories");
        SprintBoard x = new SprintBoard();
        x.addStory(13);
        x.startSprint(1);
        is("none planned", 0, x.burnDown(0));
        x.plan(0);
        x.passDay();
        is("planned on that day", 13, x.burnDown(1));
    }

    static void idealOfTheFirstAndTheLastDay() {
        sentence("39: the burn-down for day 0, converted to float, times the length of the sprint minus the day, "
            + "converted to float, divided by the length, converted to float");
        SprintBoard x = working(3, 1);
        float[] due = {3f, 2.7f, 2.4f, 2.1f, 1.8f, 1.5f, 1.2f, 0.9f, 0.6f, 0.3f, 0f};
        for (int day = 0; day <= 10; day++) {
            is("day " + day + " of 10", due[day], x.idealBurnDown(day));
        }
        SprintBoard one = new SprintBoard();
        one.startSprint(1);
        is("of nothing, day 0", 0f, one.idealBurnDown(0));
        is("of nothing, the last day", 0f, one.idealBurnDown(1));
        SprintBoard full = new SprintBoard();
        for (int story = 0; story < 16; story++) {
            full.addStory(13);
            full.plan(story);
        }
        full.startSprint(9);
        is("of the greatest scope", 208f, full.idealBurnDown(0));
        is("of the greatest scope, a day before the end", 208f / 9f, full.idealBurnDown(8));
    }

    static void idealStaysAsItWasAtTheStart() {
        sentence("39: Returns what the burn-down for a day would be ideally");
        SprintBoard x = working(8, 4);
        x.passDay();
        x.addStory(13);
        x.plan(1);
        is("a day that has passed", 8f * 9f / 10f, x.idealBurnDown(1));
        is("a day to come", 4f, x.idealBurnDown(5));
        x.endSprint();
        x.plan(1);
        x.startSprint(2);
        is("of the next sprint", 6.5f, x.idealBurnDown(1));
    }

    static void velocitiesOfNineSprints() {
        sentence("40: Returns the velocity of a sprint that has ended");
        SprintBoard x = new SprintBoard();
        x.addDeveloper(4);
        int[] due = {1, 2, 3, 1, 2, 3, 1, 2, 3};
        for (int sprint = 0; sprint < 9; sprint++) {
            x.addStory(due[sprint]);
            x.plan(sprint);
            x.startSprint(1);
            x.assign(sprint, 0);
            x.passDay();
            x.endSprint();
        }
        for (int sprint = 0; sprint < 9; sprint++) {
            is("sprint " + sprint, due[sprint], x.velocityOf(sprint));
        }
        is("41: of nine", 2.0, x.meanVelocity());
    }

    static void velocityStaysAsItWas() {
        sentence("40: When a sprint ends, its velocity, the sum of the estimates of the planned stories that are done, "
            + "is recorded");
        SprintBoard x = board(5, 3);
        finish(x, 0);
        is("then", 5, x.velocityOf(0));
        finish(x, 1);
        is("later", 5, x.velocityOf(0));
        x.undo();
        fails("undone", INDEX, () -> x.velocityOf(1));
    }

    static void noSprintHasEnded() {
        sentence("41: Throws ArithmeticException if no sprint has ended");
        refuses("never started", ARITHMETIC, SprintBoard::new, SprintBoard::meanVelocity);
        refuses("the first is active", ARITHMETIC, () -> working(3, 4), SprintBoard::meanVelocity);
        refuses("undone", ARITHMETIC, () -> after(() -> ended(1), SprintBoard::undo), SprintBoard::meanVelocity);
        is("one of nothing", 0.0, ended(1).meanVelocity());
        is("nine of nothing", 0.0, ended(9).meanVelocity());
    }

    static void meanWithAFraction() {
        sentence("41: Returns the sum of the velocities divided by their number, both converted to double");
        SprintBoard x = board(1, 1, 5);
        finish(x, 0);
        is("of one", 1.0, x.meanVelocity());
        x.startSprint(1);
        x.endSprint();
        is("of two", 0.5, x.meanVelocity());
        x.startSprint(1);
        is("the active one does not count", 0.5, x.meanVelocity());
        x.endSprint();
        is("of three", 1.0 / 3.0, x.meanVelocity());
        finish(x, 2);
        is("of four", 1.5, x.meanVelocity());
    }

    static void doneNeedsNoDays() {
        sentence("42: Returns the number of days, 0 if it is done");
        bothFinish(busy(), 1, 0);
        SprintBoard x = working(8, 3);
        x.addStory(1);
        x.passDay();
        x.block(0, 1);
        x.reestimate(0, 3);
        bothFinish(x, 0, 0);
    }

    static void roundedUp() {
        sentence("43: plus the number of days that its own points need at the speed of its developer, rounded up");
        int[][] days = {{1, 1, 1, 1}, {2, 1, 1, 1}, {3, 2, 1, 1}, {5, 3, 2, 2}, {8, 4, 3, 2}, {13, 7, 5, 4}};
        for (int index = 0; index < ESTIMATES.length; index++) {
            for (int speed = 1; speed <= 4; speed++) {
                bothFinish(working(ESTIMATES[index], speed), 0, days[index][speed - 1]);
            }
        }
    }

    static void notLimitedByTheSprint() {
        sentence("42: the days are not limited by the sprint, and assignments only end with their stories");
        SprintBoard x = allWorking(1, new int[] {13}, 1);
        bothFinish(x, 0, 13);
        x.passDay();
        bothFinish(x, 0, 12);
        SprintBoard longest = allWorking(1, new int[] {13, 13, 13, 13}, 1, 1, 1, 1);
        for (int story = 0; story < 3; story++) {
            longest.block(story, story + 1);
        }
        for (int story = 0; story < 4; story++) {
            bothFinish(longest, story, 13 * (4 - story));
        }
    }

    static void daysPassOnACopy() {
        sentence("42: Returns after how many days a story would be done, by letting days pass on a copy");
        SprintBoard x = busy();
        bothFinish(x, 2, 7);
        bothFinish(x, 0, 2);
        is("47: consistent", true, x.isConsistent());
        is("nothing is told apart afterwards", picture(busy()), picture(x));
        is("nor undone", undone(busy()), undone(x));
    }

    static void greatestOfAnyBlocker() {
        sentence("43: the greatest number of days that any blocker of it needs");
        int[][] estimates = {{1, 13, 3, 2}, {1, 3, 13, 2}, {1, 3, 2, 13}};
        for (int[] points : estimates) {
            SprintBoard x = allWorking(1, points, 1, 1, 1, 1);
            x.block(0, 1);
            x.block(0, 2);
            x.block(0, 3);
            bothFinish(x, 0, 14);
        }
        SprintBoard x = allWorking(2, new int[] {1, 1, 5}, 1, 1, 2);
        x.block(0, 1);
        x.block(0, 2);
        x.passDay();
        bothFinish(x, 1, 0);
        bothFinish(x, 0, 3);
    }

    static void neverDone() {
        sentence("42: Throws NoSuchElementException if it would never be done");
        neverFinishes("no developer", Boards::busy, 3);
        neverFinishes("on a new board", () -> stories(1), 0);
        neverFinishes("a blocker without developer", () -> after(Boards::busy, x -> x.block(0, 3)), 0);
        neverFinishes("what waits for it too", () -> after(Boards::busy, x -> x.block(0, 3)), 2);
        neverFinishes("the sprint has ended", () -> after(Boards::busy, SprintBoard::endSprint), 0);
        neverFinishes("taken off", () -> after(Boards::busy, x -> x.unassign(0)), 0);
        neverFinishes("its blocker was taken off", () -> after(Boards::busy, x -> x.unassign(0)), 2);
        neverFinishes("the whole chain", Boards::chain, 0);
        neverFinishes("the end of the chain", Boards::chain, 15);
        neverFinishes("one point left", () -> after(() -> working(5, 4), x -> {
            x.passDay();
            x.unassign(0);
        }), 0);
    }

    static void onlyOneOfSomeBlockersIsNeverDone() {
        sentence("43: because it or a story for which it has to wait is not done and has no developer");
        for (int without = 1; without < 4; without++) {
            int developer = without;
            neverFinishes("without a developer for " + without, () -> after(
                () -> allWorking(1, new int[] {1, 1, 1, 1}, 1, 1, 1, 1), x -> {
                    x.block(0, 1);
                    x.block(0, 2);
                    x.block(0, 3);
                    x.unassign(developer);
                }), 0);
        }
        SprintBoard x = allWorking(2, new int[] {8, 1}, 1, 1);
        x.block(0, 1);
        x.passDay();
        bothFinish(x, 0, 8);
    }

    static void doneBlockersAreNotWaitedFor() {
        sentence("43: a story that is done needs 0 days");
        SprintBoard x = allWorking(3, new int[] {8, 1}, 3, 1);
        x.addStory(5);
        x.block(1, 0);
        x.passDay();
        x.block(0, 2);
        x.reestimate(0, 3);
        is("11: the blocker is done and blocked", true, x.isBlocked(0));
        bothFinish(x, 0, 0);
        bothFinish(x, 1, 1);
    }

    private static SprintBoard ended(int count) {
        SprintBoard x = new SprintBoard();
        for (int sprint = 0; sprint < count; sprint++) {
            x.startSprint(1);
            x.endSprint();
        }
        return x;
    }

    private static void bothFinish(SprintBoard x, int story, int days) {
        is("finishDay of " + story, days, outcome(() -> x.finishDay(story)));
        is("finishDayByRecursion of " + story, days, outcome(() -> x.finishDayByRecursion(story)));
    }

    private static void neverFinishes(String what, Supplier<SprintBoard> made, int story) {
        refuses("finishDay, " + what, FOUND, made, x -> x.finishDay(story));
        refuses("finishDayByRecursion, " + what, FOUND, made, x -> x.finishDayByRecursion(story));
        is("47: both find nothing, " + what, true, made.get().isConsistent());
    }
}

/** For each promise of the document: ordinary inputs, the edges that it names, and wrong inputs. */
public final class PromiseTest extends Boards {
    private PromiseTest() {
    }

    public static void main(String[] arguments) {
        promise1();
        stories();
        blockers();
        developers();
        sprints();
        finishDays();
        lines();
        texts();
        undoAndSnapshots();
        checks.end();
    }

    private static void stories() {
        promise2();
        promise3();
        promise3KeepsWork();
        promise3FreesTheDeveloper();
        promises6To10();
    }

    private static void blockers() {
        promise4();
        promise4Order();
        promise5();
        promises11And12();
        promise13();
        promises14And15();
        promise16();
        promise17();
    }

    private static void developers() {
        promise18();
        promise19();
        promise19Order();
        promise20();
        promises21And22();
        promises23And24();
    }

    private static void sprints() {
        promise25();
        promise26();
        promise27();
        promise28();
        promise28Blocked();
        promise29();
        promises30To32();
        promise33();
        promises34To36();
        promise37();
        promise38();
        promise39();
        promises40And41();
    }

    private static void finishDays() {
        promises42And43();
        promises42And43Never();
    }

    private static void lines() {
        promise44();
        promise45();
        promise46();
        promise47();
    }

    private static void texts() {
        promise48();
        promise49EachCommand();
        promise49AllOrNone();
        promise49Numbers();
        promise49FailsWhereTheMethodThrows();
        promise50();
        promise51();
    }

    private static void undoAndSnapshots() {
        promise52();
        promise52EachModification();
        promise52KeepsTextAndLine();
        promise53();
        promise54();
        promise54TheSprint();
        promise54TheVelocities();
    }

    private static void promise1() {
        SprintBoard x = new SprintBoard();
        is("1 stories", 0, x.storyCount());
        is("1 developers", 0, x.developerCount());
        is("1 active", false, x.isActive());
        is("1 sprints", 0, x.sprintCount());
        is("1 scope", 0, x.scope());
        fails("1 undo", STATE, x::undo);
        fails("1 restore", STATE, x::restore);
        fails("1 line", INDEX, () -> x.lineAt(0));
        fails("1 errorPosition", FOUND, x::errorPosition);
        fails("1 failedCommand", FOUND, x::failedCommand);
    }

    private static void promise2() {
        SprintBoard x = new SprintBoard();
        int[] estimates = {1, 2, 3, 5, 8, 13};
        for (int story = 0; story < estimates.length; story++) {
            is("2 number", story, x.addStory(estimates[story]));
            is("2 estimate", estimates[story], x.estimateOf(story));
            is("2 left", estimates[story], x.leftOf(story));
            is("2 worked", 0, x.workedOn(story));
            is("2 not planned", false, x.isPlanned(story));
        }
        for (int points : new int[] {Integer.MIN_VALUE, -1, 0, 4, 6, 7, 9, 12, 14, 21, Integer.MAX_VALUE}) {
            fails("2 points " + points, ARGUMENT, () -> x.addStory(points));
        }
        is("2 unchanged", 6, x.storyCount());
        while (x.storyCount() < 16) {
            x.addStory(1);
        }
        fails("2 full", STATE, () -> x.addStory(1));
        fails("2 full and no estimate", ARGUMENT, () -> x.addStory(4));
        is("2 still full", 16, x.storyCount());
    }

    private static void promise3() {
        SprintBoard x = board(5, 3);
        for (int points : new int[] {1, 2, 3, 5, 8, 13}) {
            is("3 answer", points, x.reestimate(0, points));
            is("3 estimate", points, x.estimateOf(0));
        }
        is("3 other story", 3, x.estimateOf(1));
        for (int story : new int[] {-1, 2, 16, Integer.MIN_VALUE, Integer.MAX_VALUE}) {
            fails("3 story " + story, INDEX, () -> x.reestimate(story, 3));
            fails("3 story before points", INDEX, () -> x.reestimate(story, 4));
        }
        for (int points : new int[] {-1, 0, 4, 6, 14}) {
            fails("3 points " + points, ARGUMENT, () -> x.reestimate(0, points));
        }
        is("3 unchanged", 13, x.estimateOf(0));
        finish(x, 1);
        fails("3 done", STATE, () -> x.reestimate(1, 5));
        fails("3 points before done", ARGUMENT, () -> x.reestimate(1, 4));
        is("3 done unchanged", 3, x.estimateOf(1));
    }

    private static void promise3KeepsWork() {
        SprintBoard x = working(8, 3);
        x.passDay();
        is("3 more", 10, x.reestimate(0, 13));
        is("3 worked stays", 3, x.workedOn(0));
        is("3 less", 2, x.reestimate(0, 5));
        is("3 still assigned", 0, x.storyOf(0));
        is("3 worked still stays", 3, x.workedOn(0));
    }

    private static void promise3FreesTheDeveloper() {
        for (int points : new int[] {3, 2, 1}) {
            SprintBoard x = working(8, 3);
            x.passDay();
            is("3 none left", 0, x.reestimate(0, points));
            is("3 done", true, x.isDone(0));
            is("3 worked at most the estimate", points, x.workedOn(0));
            fails("3 developer is free", FOUND, () -> x.storyOf(0));
            fails("3 story is free", FOUND, () -> x.developerOf(0));
        }
    }

    private static void promises6To10() {
        SprintBoard x = new SprintBoard();
        is("6 none", 0, x.storyCount());
        x.addStory(8);
        is("6 one", 1, x.storyCount());
        x.addStory(5);
        is("6 two", 2, x.storyCount());
        x.addDeveloper(3);
        x.plan(0);
        x.startSprint(10);
        x.assign(0, 0);
        x.passDay();
        is("7 estimate", 8, x.estimateOf(0));
        is("7 other", 5, x.estimateOf(1));
        is("8 left", 5, x.leftOf(0));
        is("8 other", 5, x.leftOf(1));
        is("9 worked", 3, x.workedOn(0));
        is("9 other", 0, x.workedOn(1));
        is("10 not done", false, x.isDone(0));
        x.passDay();
        x.passDay();
        is("8 not below 0", 0, x.leftOf(0));
        is("9 all", 8, x.workedOn(0));
        is("10 done", true, x.isDone(0));
        is("10 other", false, x.isDone(1));
        for (int story : new int[] {-1, 2, 15, 16, Integer.MIN_VALUE, Integer.MAX_VALUE}) {
            fails("7 story " + story, INDEX, () -> x.estimateOf(story));
            fails("8 story " + story, INDEX, () -> x.leftOf(story));
            fails("9 story " + story, INDEX, () -> x.workedOn(story));
            fails("10 story " + story, INDEX, () -> x.isDone(story));
        }
    }

    private static void promise4() {
        SprintBoard x = board(1, 1, 1, 1);
        is("4 first", 1, x.block(0, 1));
        is("4 second", 2, x.block(0, 2));
        fails("4 again", STATE, () -> x.block(0, 1));
        fails("4 same", ARGUMENT, () -> x.block(0, 0));
        fails("4 back", SUPPORT, () -> x.block(1, 0));
        is("4 chain", 1, x.block(2, 3));
        fails("4 far back", SUPPORT, () -> x.block(3, 0));
        is("4 back unchanged", false, x.isBlocker(3, 0));
        is("4 shortcut", 3, x.block(0, 3));
        for (int story : new int[] {-1, 4, 16, 32, Integer.MIN_VALUE, Integer.MAX_VALUE}) {
            fails("4 story " + story, INDEX, () -> x.block(story, 0));
            fails("4 blocker " + story, INDEX, () -> x.block(0, story));
            fails("4 both " + story, INDEX, () -> x.block(story, story));
        }
        finish(x, 3);
        is("4 a done blocker counts", 1, x.block(1, 3));
        is("4 done blockers count", 3, openAndDone(x, 0));
    }

    private static void promise4Order() {
        SprintBoard x = board(1, 1);
        finish(x, 0);
        fails("4 same before done", ARGUMENT, () -> x.block(0, 0));
        fails("4 done", STATE, () -> x.block(0, 1));
        x.block(1, 0);
        fails("4 done before dependence", STATE, () -> x.block(0, 1));
        is("4 number of blockers", false, x.isBlocker(0, 1));
    }

    private static void promise5() {
        SprintBoard x = board(1, 1, 1);
        x.block(0, 1);
        x.block(0, 2);
        finish(x, 2);
        is("5 a done one is left", 1, x.unblock(0, 1));
        fails("5 again", STATE, () -> x.unblock(0, 1));
        is("5 a done blocker", 0, x.unblock(0, 2));
        fails("5 never", STATE, () -> x.unblock(1, 0));
        fails("5 same", STATE, () -> x.unblock(0, 0));
        for (int story : new int[] {-1, 3, 16, Integer.MIN_VALUE, Integer.MAX_VALUE}) {
            fails("5 story " + story, INDEX, () -> x.unblock(story, 0));
            fails("5 blocker " + story, INDEX, () -> x.unblock(0, story));
        }
        is("5 may block the other way now", 1, x.block(1, 0));
        SprintBoard done = board(1, 1);
        done.block(1, 0);
        finish(done, 0);
        finish(done, 1);
        is("5 of a done story", 0, done.unblock(1, 0));
    }

    private static void promises11And12() {
        SprintBoard x = board(1, 1, 1);
        is("11 none", false, x.isBlocked(0));
        is("12 none", 0, x.openBlockers(0));
        x.block(0, 1);
        x.block(0, 2);
        is("11 two", true, x.isBlocked(0));
        is("11 a blocker", false, x.isBlocked(1));
        is("12 two", 2, x.openBlockers(0));
        finish(x, 1);
        is("11 one is open", true, x.isBlocked(0));
        is("12 one is open", 1, x.openBlockers(0));
        finish(x, 2);
        is("11 all done", false, x.isBlocked(0));
        is("12 all done", 0, x.openBlockers(0));
        for (int story : new int[] {-1, 3, 16, Integer.MIN_VALUE, Integer.MAX_VALUE}) {
            fails("11 story " + story, INDEX, () -> x.isBlocked(story));
            fails("12 story " + story, INDEX, () -> x.openBlockers(story));
        }
    }

    private static void promise13() {
        SprintBoard x = board(1, 1, 1);
        x.block(0, 1);
        x.block(1, 2);
        is("13 is one", true, x.isBlocker(0, 1));
        is("13 not the other way", false, x.isBlocker(1, 0));
        is("13 not indirectly", false, x.isBlocker(0, 2));
        is("13 not itself", false, x.isBlocker(0, 0));
        finish(x, 2);
        is("13 done", true, x.isBlocker(1, 2));
        for (int story : new int[] {-1, 3, 16, 32, Integer.MIN_VALUE, Integer.MAX_VALUE}) {
            fails("13 story " + story, INDEX, () -> x.isBlocker(story, 0));
            fails("13 blocker " + story, INDEX, () -> x.isBlocker(0, story));
        }
    }

    private static void promises14And15() {
        SprintBoard x = board(1, 1, 1, 1, 1);
        x.block(4, 0);
        x.block(0, 3);
        x.block(3, 1);
        boolean[][] due = new boolean[5][5];
        due[4][0] = due[4][3] = due[4][1] = due[0][3] = due[0][1] = due[3][1] = true;
        for (int story = 0; story < 5; story++) {
            for (int other = 0; other < 5; other++) {
                is("14 " + story + " " + other, due[story][other], x.dependsOn(story, other));
                is("15 " + story + " " + other, due[story][other], x.dependsOnByClosure(story, other));
            }
        }
        finish(x, 1);
        is("14 on a done one", true, x.dependsOn(4, 1));
        is("15 on a done one", true, x.dependsOnByClosure(4, 1));
        x.unblock(0, 3);
        is("14 no more", false, x.dependsOn(4, 1));
        is("15 no more", false, x.dependsOnByClosure(4, 1));
        for (int story : new int[] {-1, 5, 16, 32, Integer.MIN_VALUE, Integer.MAX_VALUE}) {
            fails("14 story " + story, INDEX, () -> x.dependsOn(story, 0));
            fails("14 other " + story, INDEX, () -> x.dependsOn(0, story));
            fails("15 story " + story, INDEX, () -> x.dependsOnByClosure(story, 0));
            fails("15 other " + story, INDEX, () -> x.dependsOnByClosure(0, story));
        }
    }

    private static void promise16() {
        SprintBoard x = board(1, 1, 1, 1);
        is("16 alone", 1, x.longestChain(0));
        x.block(0, 1);
        x.block(0, 2);
        x.block(2, 3);
        is("16 longest", 3, x.longestChain(0));
        is("16 middle", 2, x.longestChain(2));
        is("16 end", 1, x.longestChain(3));
        finish(x, 3);
        is("16 done ones count", 3, x.longestChain(0));
        for (int story : new int[] {-1, 4, 16, Integer.MIN_VALUE, Integer.MAX_VALUE}) {
            fails("16 story " + story, INDEX, () -> x.longestChain(story));
        }
        SprintBoard wide = board(1, 1, 1, 1);
        wide.block(0, 1);
        wide.block(0, 2);
        wide.block(1, 3);
        is("16 through the lower of two", 3, wide.longestChain(0));
        is("14 through the lower of two", true, wide.dependsOn(0, 3));
        is("15 through the lower of two", true, wide.dependsOnByClosure(0, 3));
        SprintBoard full = full();
        for (int story = 0; story < 15; story++) {
            full.block(story, story + 1);
        }
        is("16 all", 16, full.longestChain(0));
        is("14 all", true, full.dependsOn(0, 15));
        is("15 all", true, full.dependsOnByClosure(0, 15));
        is("14 none back", false, full.dependsOn(15, 0));
        is("15 none back", false, full.dependsOnByClosure(15, 0));
        fails("4 all", SUPPORT, () -> full.block(15, 0));
        is("17 last first", 15, full.storyInOrder(0));
        is("17 first last", 0, full.storyInOrder(15));
        is("47 all", true, full.isConsistent());
    }

    private static void promise17() {
        SprintBoard x = board(1, 1, 1, 1, 1);
        x.block(0, 3);
        x.block(1, 0);
        int[] due = {2, 3, 0, 1, 4};
        for (int position = 0; position < due.length; position++) {
            is("17 position " + position, due[position], x.storyInOrder(position));
        }
        for (int position : new int[] {-1, 5, 16, Integer.MIN_VALUE, Integer.MAX_VALUE}) {
            fails("17 position " + position, FOUND, () -> x.storyInOrder(position));
        }
        finish(x, 3);
        is("17 done ones come before too", 2, x.storyInOrder(0));
        is("17 done one", 3, x.storyInOrder(1));
    }

    private static void promise18() {
        SprintBoard x = new SprintBoard();
        for (int developer = 0; developer < 4; developer++) {
            int number = developer;
            is("18 number", developer, x.addDeveloper(developer + 1));
            is("18 speed", developer + 1, x.speedOf(developer));
            fails("18 not assigned", FOUND, () -> x.storyOf(number));
        }
        fails("18 full", STATE, () -> x.addDeveloper(1));
        for (int speed : new int[] {Integer.MIN_VALUE, -1, 0, 5, Integer.MAX_VALUE}) {
            fails("18 speed before full", ARGUMENT, () -> x.addDeveloper(speed));
            fails("18 speed " + speed, ARGUMENT, () -> new SprintBoard().addDeveloper(speed));
        }
        is("18 unchanged", 4, x.developerCount());
    }

    private static void promise19() {
        SprintBoard x = board(5, 3, 8, 2);
        x.addDeveloper(1);
        x.addDeveloper(4);
        x.block(1, 0);
        x.plan(0);
        x.plan(1);
        x.plan(2);
        x.startSprint(3);
        is("19 not blocked", false, x.assign(0, 0));
        is("19 blocked", true, x.assign(1, 1));
        is("19 story", 1, x.storyOf(1));
        is("19 developer", 1, x.developerOf(1));
        fails("19 developer is assigned", STATE, () -> x.assign(2, 0));
        x.addDeveloper(2);
        fails("19 story has one", STATE, () -> x.assign(0, 2));
        fails("19 same again", STATE, () -> x.assign(0, 0));
        fails("19 not planned", STATE, () -> x.assign(3, 2));
        fails("19 unchanged", FOUND, () -> x.storyOf(2));
        for (int number : new int[] {-1, 4, 16, Integer.MIN_VALUE, Integer.MAX_VALUE}) {
            fails("19 story " + number, INDEX, () -> x.assign(number, 2));
            fails("19 developer " + number, INDEX, () -> x.assign(2, number));
        }
        fails("19 no developer 3", INDEX, () -> x.assign(2, 3));
        for (int day = 0; day < 3; day++) {
            x.passDay();
        }
        is("19 after the last day", false, x.assign(2, 2));
        x.endSprint();
        x.plan(0);
        fails("19 after the sprint", SUPPORT, () -> x.assign(0, 0));
    }

    private static void promise19Order() {
        SprintBoard x = board(1, 1);
        x.addDeveloper(4);
        fails("19 index before support", INDEX, () -> x.assign(2, 0));
        fails("19 developer before support", INDEX, () -> x.assign(0, 1));
        fails("19 no sprint before not planned", SUPPORT, () -> x.assign(0, 0));
        x.plan(0);
        fails("19 no sprint", SUPPORT, () -> x.assign(0, 0));
        x.startSprint(2);
        x.assign(0, 0);
        x.passDay();
        fails("19 done", STATE, () -> x.assign(0, 0));
    }

    private static void promise20() {
        SprintBoard x = board(1, 8);
        x.addDeveloper(1);
        fails("20 not assigned", STATE, () -> x.unassign(0));
        x.plan(1);
        x.startSprint(2);
        x.assign(1, 0);
        is("20 story", 1, x.unassign(0));
        fails("20 free developer", FOUND, () -> x.storyOf(0));
        fails("20 free story", FOUND, () -> x.developerOf(1));
        fails("20 again", STATE, () -> x.unassign(0));
        is("20 may be assigned again", false, x.assign(1, 0));
        for (int developer : new int[] {-1, 1, 4, 16, Integer.MIN_VALUE, Integer.MAX_VALUE}) {
            fails("20 developer " + developer, INDEX, () -> x.unassign(developer));
        }
    }

    private static void promises21And22() {
        SprintBoard x = new SprintBoard();
        is("21 none", 0, x.developerCount());
        x.addDeveloper(4);
        is("21 one", 1, x.developerCount());
        x.addDeveloper(2);
        is("21 two", 2, x.developerCount());
        is("22 first", 4, x.speedOf(0));
        is("22 second", 2, x.speedOf(1));
        for (int developer : new int[] {-1, 2, 4, Integer.MIN_VALUE, Integer.MAX_VALUE}) {
            fails("22 developer " + developer, INDEX, () -> x.speedOf(developer));
        }
    }

    private static void promises23And24() {
        SprintBoard x = board(1, 8, 8);
        x.addDeveloper(1);
        x.addDeveloper(1);
        x.plan(1);
        x.plan(2);
        fails("23 not assigned", FOUND, () -> x.storyOf(1));
        fails("24 no developer", FOUND, () -> x.developerOf(2));
        x.startSprint(5);
        x.assign(2, 1);
        is("23 story", 2, x.storyOf(1));
        is("24 developer", 1, x.developerOf(2));
        fails("23 other developer", FOUND, () -> x.storyOf(0));
        fails("24 other story", FOUND, () -> x.developerOf(1));
        for (int developer : new int[] {-1, 2, 4, Integer.MIN_VALUE, Integer.MAX_VALUE}) {
            fails("23 developer " + developer, INDEX, () -> x.storyOf(developer));
        }
        for (int story : new int[] {-1, 3, 16, Integer.MIN_VALUE, Integer.MAX_VALUE}) {
            fails("24 story " + story, INDEX, () -> x.developerOf(story));
        }
    }

    private static void promise25() {
        SprintBoard x = board(5, 3, 8);
        is("25 first", 5, x.plan(0));
        is("25 second", 13, x.plan(2));
        fails("25 again", STATE, () -> x.plan(0));
        x.startSprint(3);
        is("25 after the start", 16, x.plan(1));
        for (int story : new int[] {-1, 3, 16, 32, Integer.MIN_VALUE, Integer.MAX_VALUE}) {
            fails("25 story " + story, INDEX, () -> x.plan(story));
        }
        SprintBoard done = board(1);
        finish(done, 0);
        fails("25 done", STATE, () -> done.plan(0));
        is("25 unchanged", 0, done.scope());
    }

    private static void promise26() {
        SprintBoard x = board(5, 3, 8);
        fails("26 not planned", STATE, () -> x.unplan(0));
        x.plan(0);
        x.plan(1);
        x.plan(2);
        is("26 before the start", 11, x.unplan(0));
        fails("26 again", STATE, () -> x.unplan(0));
        x.startSprint(3);
        x.addDeveloper(3);
        x.assign(1, 0);
        fails("26 has a developer", STATE, () -> x.unplan(1));
        is("26 still planned", true, x.isPlanned(1));
        is("26 after the start", 3, x.unplan(2));
        x.passDay();
        is("26 done", 0, x.unplan(1));
        for (int story : new int[] {-1, 3, 16, 32, Integer.MIN_VALUE, Integer.MAX_VALUE}) {
            fails("26 story " + story, INDEX, () -> x.unplan(story));
        }
    }

    private static void promise27() {
        SprintBoard x = new SprintBoard();
        for (int days : new int[] {Integer.MIN_VALUE, -1, 0, 11, Integer.MAX_VALUE}) {
            fails("27 length " + days, ARGUMENT, () -> x.startSprint(days));
        }
        is("27 unchanged", false, x.isActive());
        for (int sprint = 0; sprint < 9; sprint++) {
            is("27 number", sprint, x.startSprint(sprint + 1));
            fails("27 is active", STATE, () -> x.startSprint(1));
            fails("27 length before active", ARGUMENT, () -> x.startSprint(11));
            x.endSprint();
        }
        fails("27 there were nine", STATE, () -> x.startSprint(1));
        fails("27 length before nine", ARGUMENT, () -> x.startSprint(0));
        SprintBoard longest = new SprintBoard();
        is("27 ten days", 0, longest.startSprint(10));
        for (int day = 1; day <= 10; day++) {
            longest.passDay();
            is("28 day", day, longest.daysPassed());
        }
        fails("28 all have passed", STATE, longest::passDay);
    }

    private static void promise28() {
        SprintBoard x = board(1, 2, 5);
        fails("28 no sprint", STATE, x::passDay);
        x.addDeveloper(1);
        x.addDeveloper(2);
        x.addDeveloper(4);
        for (int story = 0; story < 3; story++) {
            x.plan(story);
        }
        x.startSprint(2);
        for (int story = 0; story < 3; story++) {
            x.assign(story, story);
        }
        is("28 two become done", 2, x.passDay());
        fails("28 no longer assigned", FOUND, () -> x.storyOf(0));
        is("28 still assigned", 2, x.storyOf(2));
        is("28 left", 1, x.leftOf(2));
        is("28 one becomes done", 1, x.passDay());
        is("28 not below 0", 0, x.leftOf(2));
        is("28 burn-down", 0, x.burnDown(2));
        fails("28 all have passed", STATE, x::passDay);
        is("28 unchanged", 2, x.daysPassed());
        x.endSprint();
        fails("28 has ended", STATE, x::passDay);
    }

    private static void promise28Blocked() {
        SprintBoard x = board(1, 1, 1);
        for (int story = 0; story < 3; story++) {
            x.addDeveloper(1);
            x.plan(story);
        }
        x.block(0, 1);
        x.block(1, 2);
        x.startSprint(3);
        for (int story = 0; story < 3; story++) {
            x.assign(story, story);
        }
        is("28 only the last", 1, x.passDay());
        is("28 blocked at the beginning", 1, x.leftOf(1));
        is("28 still blocked", 1, x.leftOf(0));
        is("28 then the middle", 1, x.passDay());
        is("28 blocked until the day after", 1, x.leftOf(0));
        is("28 then the first", 1, x.passDay());
        is("28 done", true, x.isDone(0));

        SprintBoard other = board(1, 1);
        other.addDeveloper(1);
        other.addDeveloper(1);
        other.plan(0);
        other.plan(1);
        other.block(1, 0);
        other.startSprint(2);
        other.assign(0, 0);
        other.assign(1, 1);
        is("28 in the order of developers too", 1, other.passDay());
        is("28 no work on that day", 1, other.leftOf(1));
    }

    private static void promise29() {
        SprintBoard x = board(5, 3, 8, 2);
        fails("29 no sprint", STATE, x::endSprint);
        x.addDeveloper(3);
        x.addDeveloper(4);
        for (int story = 0; story < 4; story++) {
            x.plan(story);
        }
        x.startSprint(5);
        x.assign(1, 0);
        x.assign(2, 1);
        x.passDay();
        x.assign(3, 0);
        x.passDay();
        x.unplan(3);
        x.assign(0, 0);
        is("29 velocity", 11, x.endSprint());
        is("29 ended", 1, x.sprintCount());
        is("29 recorded", 11, x.velocityOf(0));
        is("29 not active", false, x.isActive());
        is("29 none planned", 0, x.scope());
        is("29 not planned", false, x.isPlanned(0));
        fails("29 none assigned", FOUND, () -> x.storyOf(0));
        is("29 work stays", 5, x.leftOf(0));
        fails("29 again", STATE, x::endSprint);
        x.startSprint(1);
        is("29 nothing done", 0, x.endSprint());
    }

    private static void promises30To32() {
        SprintBoard x = new SprintBoard();
        fails("32 no sprint", FOUND, x::daysPassed);
        x.startSprint(2);
        is("30 active", true, x.isActive());
        is("31 not ended", 0, x.sprintCount());
        is("32 none", 0, x.daysPassed());
        x.passDay();
        is("32 one", 1, x.daysPassed());
        x.passDay();
        is("30 still active", true, x.isActive());
        is("32 two", 2, x.daysPassed());
        x.endSprint();
        is("30 ended", false, x.isActive());
        is("31 ended", 1, x.sprintCount());
        fails("32 ended", FOUND, x::daysPassed);
        x.startSprint(1);
        is("31 next", 1, x.sprintCount());
        is("32 from the start again", 0, x.daysPassed());
    }

    private static void promise33() {
        SprintBoard x = board(1, 1);
        x.plan(1);
        is("33 planned", true, x.isPlanned(1));
        is("33 other", false, x.isPlanned(0));
        x.unplan(1);
        is("33 no more", false, x.isPlanned(1));
        for (int story : new int[] {-1, 2, 16, 33, Integer.MIN_VALUE, Integer.MAX_VALUE}) {
            fails("33 story " + story, INDEX, () -> x.isPlanned(story));
        }
    }

    private static void promises34To36() {
        SprintBoard x = board(5, 3, 8);
        x.plan(0);
        x.plan(1);
        x.addDeveloper(2);
        x.startSprint(9);
        x.assign(1, 0);
        x.passDay();
        is("34 scope", 8, x.scope());
        is("35 left", 6, x.left());
        is("36 worked", 2, x.worked());
        x.passDay();
        is("34 done ones count", 8, x.scope());
        is("35 done ones have none", 5, x.left());
        is("36 done ones count", 3, x.worked());
        x.unplan(1);
        is("34 unplanned ones do not", 5, x.scope());
        is("35 unplanned ones do not", 5, x.left());
        is("36 unplanned ones do not", 0, x.worked());
        x.reestimate(0, 13);
        is("34 new estimate", 13, x.scope());
        is("35 new estimate", 13, x.left());
    }

    private static void promise37() {
        SprintBoard x = board(5, 3, 8);
        fails("37 no sprint", FOUND, x::scopeChange);
        x.plan(0);
        x.plan(1);
        x.startSprint(3);
        is("37 none", 0, x.scopeChange());
        x.unplan(1);
        is("37 less", -3, x.scopeChange());
        x.plan(2);
        is("37 more", 5, x.scopeChange());
        x.passDay();
        is("37 days change nothing", 5, x.scopeChange());
        x.reestimate(0, 1);
        is("37 estimate", 1, x.scopeChange());
        x.endSprint();
        fails("37 ended", FOUND, x::scopeChange);
        x.plan(2);
        x.startSprint(1);
        is("37 a new start", 0, x.scopeChange());
    }

    private static void promise38() {
        SprintBoard x = board(8, 3);
        fails("38 no sprint", FOUND, () -> x.burnDown(0));
        x.plan(0);
        x.addDeveloper(3);
        x.startSprint(3);
        x.assign(0, 0);
        is("38 start", 8, x.burnDown(0));
        fails("38 has not passed", FOUND, () -> x.burnDown(1));
        x.passDay();
        is("38 end of the day", 5, x.burnDown(1));
        x.plan(1);
        is("38 as recorded then", 5, x.burnDown(1));
        is("38 start as recorded then", 8, x.burnDown(0));
        x.passDay();
        is("38 with the planned story", 5, x.burnDown(2));
        for (int day : new int[] {Integer.MIN_VALUE, -1, 3, 4, 11, Integer.MAX_VALUE}) {
            fails("38 day " + day, FOUND, () -> x.burnDown(day));
        }
        x.endSprint();
        fails("38 ended", FOUND, () -> x.burnDown(0));
        x.plan(1);
        x.startSprint(10);
        is("38 next sprint", 3, x.burnDown(0));
        fails("38 of the sprint before", FOUND, () -> x.burnDown(1));
    }

    private static void promise39() {
        SprintBoard x = board(13, 3);
        fails("39 no sprint", FOUND, () -> x.idealBurnDown(0));
        x.plan(0);
        x.plan(1);
        x.startSprint(7);
        for (int day = 0; day <= 7; day++) {
            is("39 day " + day, 16f * (float) (7 - day) / 7f, x.idealBurnDown(day));
        }
        x.unplan(1);
        is("39 of the start", 16f, x.idealBurnDown(0));
        for (int day : new int[] {Integer.MIN_VALUE, -1, 8, Integer.MAX_VALUE}) {
            fails("39 day " + day, FOUND, () -> x.idealBurnDown(day));
        }
        x.endSprint();
        fails("39 ended", FOUND, () -> x.idealBurnDown(0));
    }

    private static void promises40And41() {
        SprintBoard x = board(5, 2, 1);
        fails("41 none", ARITHMETIC, x::meanVelocity);
        x.startSprint(1);
        fails("40 not ended", INDEX, () -> x.velocityOf(0));
        fails("41 not ended", ARITHMETIC, x::meanVelocity);
        x.endSprint();
        is("41 of zero", 0.0, x.meanVelocity());
        finish(x, 0);
        finish(x, 1);
        is("40 first", 0, x.velocityOf(0));
        is("40 second", 5, x.velocityOf(1));
        is("40 third", 2, x.velocityOf(2));
        is("41 mean", 7.0 / 3.0, x.meanVelocity());
        x.startSprint(1);
        for (int sprint : new int[] {Integer.MIN_VALUE, -1, 3, 9, Integer.MAX_VALUE}) {
            fails("40 sprint " + sprint, INDEX, () -> x.velocityOf(sprint));
        }
        is("41 the active one does not count", 7.0 / 3.0, x.meanVelocity());
    }

    private static void promises42And43() {
        SprintBoard x = board(5, 3, 8, 1);
        x.addDeveloper(2);
        x.addDeveloper(4);
        x.addDeveloper(1);
        x.block(1, 0);
        x.block(2, 1);
        x.plan(0);
        x.plan(1);
        x.plan(2);
        x.startSprint(1);
        x.assign(0, 0);
        x.assign(1, 1);
        x.assign(2, 2);
        bothFinish(x, 0, 3);
        bothFinish(x, 1, 4);
        bothFinish(x, 2, 12);
        is("42 on a copy", 5, x.leftOf(0));
        is("42 no day has passed", 0, x.daysPassed());
        x.passDay();
        bothFinish(x, 2, 11);
        SprintBoard slow = working(13, 1);
        bothFinish(slow, 0, 13);
        SprintBoard done = board(1, 1);
        done.block(1, 0);
        finish(done, 0);
        bothFinish(done, 0, 0);
        done.plan(1);
        done.startSprint(1);
        done.assign(1, 0);
        bothFinish(done, 1, 1);
        longestWork();
    }

    private static void longestWork() {
        SprintBoard x = board(13, 13, 13, 13);
        x.startSprint(1);
        for (int story = 0; story < 4; story++) {
            x.addDeveloper(1);
            x.plan(story);
            x.assign(story, story);
        }
        for (int story = 1; story < 4; story++) {
            x.block(story, story - 1);
        }
        bothFinish(x, 3, 52);
    }

    private static void promises42And43Never() {
        SprintBoard x = board(5, 3, 8);
        neverFinishes(x, 0);
        x.addDeveloper(2);
        x.plan(0);
        x.startSprint(3);
        x.assign(0, 0);
        bothFinish(x, 0, 3);
        x.block(0, 1);
        neverFinishes(x, 0);
        neverFinishes(x, 1);
        x.addDeveloper(3);
        x.plan(1);
        x.assign(1, 1);
        bothFinish(x, 0, 4);
        x.block(1, 2);
        neverFinishes(x, 0);
        for (int story : new int[] {-1, 3, 16, Integer.MIN_VALUE, Integer.MAX_VALUE}) {
            fails("42 story " + story, INDEX, () -> x.finishDay(story));
            fails("43 story " + story, INDEX, () -> x.finishDayByRecursion(story));
        }
        x.unblock(1, 2);
        x.endSprint();
        neverFinishes(x, 0);

        SprintBoard done = working(8, 3);
        done.addStory(1);
        done.passDay();
        done.block(0, 1);
        done.reestimate(0, 1);
        bothFinish(done, 0, 0);
        is("11 a done story may be blocked", true, done.isBlocked(0));
    }

    private static void promise44() {
        SprintBoard x = board(1, 1, 1, 8, 13);
        writes(x, 0, "0:1/1");
        x.addDeveloper(1);
        x.addDeveloper(3);
        x.plan(3);
        writes(x, 3, "3:8/8p");
        x.startSprint(4);
        x.assign(3, 1);
        x.passDay();
        writes(x, 3, "3:5/8p@1");
        x.block(3, 0);
        writes(x, 3, "3:5/8pb@1");
        x.block(4, 3);
        writes(x, 4, "4:13/13b");
        for (int story : new int[] {-1, 5, 16, Integer.MIN_VALUE, Integer.MAX_VALUE}) {
            fails("44 story " + story, INDEX, () -> x.writeStory(story));
        }
        is("44 the line stays", "4:13/13b", lineOf(x, 8));
        finish(x, 0);
        writes(x, 0, "0:0/1");
        SprintBoard full = full();
        full.plan(15);
        writes(full, 15, "15:1/1p");
    }

    private static void promise45() {
        SprintBoard x = working(13, 4);
        is("45 length", 2, x.writeBurnDown());
        is("45 start", "13", lineOf(x, 2));
        for (int day = 0; day < 5; day++) {
            x.passDay();
        }
        is("45 length of all", 12, x.writeBurnDown());
        is("45 all", "13 9 5 1 0 0", lineOf(x, 12));
        fails("45 end of the line", INDEX, () -> x.lineAt(12));
        x.endSprint();
        is("45 no sprint", 0, x.writeBurnDown());
        fails("45 empty line", INDEX, () -> x.lineAt(0));
        SprintBoard many = new SprintBoard();
        for (int story = 0; story < 16; story++) {
            many.addStory(13);
            many.plan(story);
        }
        many.startSprint(10);
        for (int day = 0; day < 10; day++) {
            many.passDay();
        }
        is("45 longest", 43, many.writeBurnDown());
        is("45 longest line", "208 208 208 208 208 208 208 208 208 208 208", lineOf(many, 43));
    }

    private static void promise46() {
        SprintBoard x = board(5);
        fails("46 empty at first", INDEX, () -> x.lineAt(0));
        is("46 written", 5, x.writeStory(0));
        is("46 first", '0', x.lineAt(0));
        is("46 last", '5', x.lineAt(4));
        for (int index : new int[] {Integer.MIN_VALUE, -1, 5, 6, Integer.MAX_VALUE}) {
            fails("46 index " + index, INDEX, () -> x.lineAt(index));
        }
    }

    private static void promise47() {
        is("47 new", true, new SprintBoard().isConsistent());
        SprintBoard x = board(5, 3, 8, 2);
        x.addDeveloper(2);
        x.block(1, 0);
        x.block(2, 1);
        x.block(3, 0);
        x.plan(0);
        x.plan(1);
        x.startSprint(4);
        x.assign(0, 0);
        is("47 active", true, x.isConsistent());
        x.passDay();
        is("47 worked", true, x.isConsistent());
        is("47 changes nothing", 3, x.leftOf(0));
        x.endSprint();
        is("47 ended", true, x.isConsistent());
    }

    private static void promise48() {
        SprintBoard x = new SprintBoard();
        for (char wrong : new char[] {0, 10, 31, 127, 128, 255, 65535}) {
            fails("48 character " + (int) wrong, ARGUMENT, () -> x.type(wrong));
        }
        is("48 blank", 1, x.type(' '));
        is("48 last", 2, x.type('~'));
        for (int length = 3; length <= 60; length++) {
            is("48 length", length, x.type('x'));
        }
        fails("48 full", STATE, () -> x.type('x'));
        fails("48 character before full", ARGUMENT, () -> x.type((char) 127));
        fails("48 malformed", ARGUMENT, x::execute);
        is("48 begins anew", 1, x.type('x'));
    }

    private static void promise49EachCommand() {
        SprintBoard x = new SprintBoard();
        is("49 story and dev", 4, run(x, "story 5;story 8;dev 3;dev 1"));
        is("49 stories", 2, x.storyCount());
        is("49 estimate", 8, x.estimateOf(1));
        is("49 speed", 3, x.speedOf(0));
        is("49 block", 1, run(x, "block 1 0"));
        is("49 blocker", true, x.isBlocker(1, 0));
        is("49 unblock", 1, run(x, "unblock 1 0"));
        is("49 no blocker", false, x.isBlocker(1, 0));
        is("49 plan", 2, run(x, "plan 0;plan 1"));
        is("49 scope", 13, x.scope());
        is("49 unplan", 1, run(x, "unplan 1"));
        is("49 smaller scope", 5, x.scope());
        is("49 start", 1, run(x, "start 2"));
        is("49 active", true, x.isActive());
        is("49 assign", 1, run(x, "assign 0 1"));
        is("49 assigned", 0, x.storyOf(1));
        is("49 free", 1, run(x, "free 1"));
        fails("49 freed", FOUND, () -> x.storyOf(1));
        is("49 points", 1, run(x, "points 0 13"));
        is("49 reestimated", 13, x.estimateOf(0));
        is("49 day", 1, run(x, "day"));
        is("49 passed", 1, x.daysPassed());
        is("49 end", 1, run(x, "end"));
        is("49 ended", 1, x.sprintCount());
    }

    private static void promise49AllOrNone() {
        SprintBoard x = board(5, 3);
        x.plan(1);
        fails("49 fails", STATE, () -> run(x, "plan 0;points 0 8;block 1 0;dev 2;start 3;day;end;end"));
        is("49 none planned", 3, x.scope());
        is("49 none reestimated", 5, x.estimateOf(0));
        is("49 none blocked", false, x.isBlocker(1, 0));
        is("49 none added", 0, x.developerCount());
        is("49 none ended", 0, x.sprintCount());
        is("49 the buffer is empty", 1, x.type('d'));
        fails("49 malformed", ARGUMENT, x::execute);
        is("49 the buffer is empty again", 1, x.type('d'));
        fails("49 malformed again", ARGUMENT, x::execute);
        fails("49 nothing of a malformed text", ARGUMENT, () -> run(x, "plan 0;plan"));
        is("49 none planned again", 3, x.scope());
        is("49 nothing to undo but the plan", 2, x.undo());
    }

    private static void promise49Numbers() {
        SprintBoard x = new SprintBoard();
        run(x, "story 13;story 01;story 05");
        is("49 two digits", 13, x.estimateOf(0));
        is("49 a leading zero", 1, x.estimateOf(1));
        run(x, "dev 4;start 10;plan 00");
        is("49 length of the sprint", 0f, x.idealBurnDown(10));
        is("49 planned", 13, x.scope());
        is("49 ten commands", 10, run(x, "day;day;day;day;day;day;day;day;day;day"));
        is("49 ten days", 10, x.daysPassed());
        SprintBoard most = new SprintBoard();
        fails("49 fifteen commands", STATE, () -> run(most, "day;day;day;day;day;day;day;day;day;day;day;day;day;day;day"));
        is("49 first of them", 0, most.failedCommand());
        SprintBoard full = full();
        is("49 story 15", 2, run(full, "block 15 14;plan 15"));
        is("49 blocked", true, full.isBlocker(15, 14));
    }

    private static void promise49FailsWhereTheMethodThrows() {
        String[] failing = {"story 4", "story 0", "story 99", "dev 0", "dev 5", "block 0 0", "block 0 7", "block 7 0",
            "unblock 0 1", "unblock 7 0", "unblock 0 7", "plan 7", "plan 99", "unplan 7", "unplan 1", "start 0",
            "start 11", "start 99", "assign 0 0", "assign 7 0", "assign 0 9", "free 0", "free 9", "points 7 5",
            "points 0 4", "points 0 0", "day", "end", "block 1 0", "block 0 1"};
        for (String command : failing) {
            SprintBoard x = board(5, 3, 8);
            x.addDeveloper(2);
            x.block(1, 0);
            x.plan(0);
            x.plan(2);
            fails("49 " + command, STATE, () -> run(x, "story 1;" + command));
            is("51 " + command, 1, x.failedCommand());
            is("49 taken back " + command, 3, x.storyCount());
            fails("49 not malformed " + command, FOUND, x::errorPosition);
        }
        SprintBoard active = working(1, 1);
        fails("49 is active", STATE, () -> run(active, "start 1"));
        fails("49 has a developer", STATE, () -> run(active, "unplan 0"));
        fails("49 is planned", STATE, () -> run(active, "plan 0"));
        fails("49 is assigned", STATE, () -> run(active, "assign 0 0"));
        fails("49 becomes done", STATE, () -> run(active, "day;plan 0"));
        fails("49 done is not reestimated", STATE, () -> run(active, "day;points 0 5"));
        is("51 second", 1, active.failedCommand());
    }

    private static void promise50() {
        Object[][] due = {{"", 0}, {"x", 0}, {"s", 1}, {"st", 2}, {"sto", 3}, {"stx", 2}, {"stary", 4}, {"story", 5},
            {"story ", 6}, {"story x", 6}, {"story  1", 6}, {"story 123", 8}, {"story 1 ", 7}, {"story 1x", 7},
            {"story 1;", 8}, {"story 1;;", 8}, {"story 1; day", 8}, {";day", 0}, {" day", 0}, {"Day", 0},
            {"d", 1}, {"da", 2}, {"de", 2}, {"dx", 1}, {"dev 12", 5}, {"dev", 3}, {"dev x", 4}, {"day 1", 3},
            {"day1", 3}, {"days", 3}, {"u", 1}, {"un", 2}, {"unx", 2}, {"unplan", 6}, {"unb", 3}, {"unblock 1", 9},
            {"unblock 1 ", 10}, {"unblock 11 222", 13}, {"p", 1}, {"px", 1}, {"pl", 2}, {"po", 2}, {"points 1", 8},
            {"points 1;day", 8}, {"points 12 13 1", 12}, {"block 1 2 3", 9}, {"assign 1", 8}, {"assign 1 12", 10},
            {"assign 11 1", -1}, {"free 12", 6}, {"free 1 1", 6}, {"end;", 4}, {"end ;day", 3}, {"end;d", 5},
            {"start 1;start 2;stark 3", 20}, {"e;end", 1}, {"en d", 2}, {"plan -1", 5},
            {"day;day;day;day;day;day;day;day;day;day;day;day;day;day;day;", 60}};
        for (Object[] text : due) {
            SprintBoard x = new SprintBoard();
            int position = (Integer) text[1];
            fails("50 " + text[0], position < 0 ? STATE : ARGUMENT, () -> run(x, (String) text[0]));
            if (position >= 0) {
                is("50 position of " + text[0], position, x.errorPosition());
            }
        }
        SprintBoard x = new SprintBoard();
        fails("50 none", FOUND, x::errorPosition);
        fails("50 only a failing command", STATE, () -> run(x, "end"));
        fails("50 still none", FOUND, x::errorPosition);
        fails("50 malformed", ARGUMENT, () -> run(x, "endx"));
        run(x, "story 1");
        is("50 of the last malformed one", 3, x.errorPosition());
    }

    private static void promise51() {
        SprintBoard x = new SprintBoard();
        fails("51 malformed", ARGUMENT, () -> run(x, "end;"));
        fails("51 none", FOUND, x::failedCommand);
        fails("51 third", STATE, () -> run(x, "story 1;plan 0;plan 0;plan 0"));
        is("51 index", 2, x.failedCommand());
        run(x, "story 1");
        fails("51 malformed again", ARGUMENT, () -> run(x, "end;"));
        is("51 of the last text that had one", 2, x.failedCommand());
        fails("51 first", STATE, () -> run(x, "end"));
        is("51 index 0", 0, x.failedCommand());
    }

    private static void promise52() {
        SprintBoard x = new SprintBoard();
        for (int story = 0; story < 10; story++) {
            x.addStory(1);
        }
        for (int remaining = 7; remaining >= 0; remaining--) {
            is("52 remaining", remaining, x.undo());
        }
        is("52 the last eight", 2, x.storyCount());
        fails("52 no more", STATE, x::undo);
        is("52 unchanged", 2, x.storyCount());
        x.addStory(13);
        is("52 anew", 0, x.undo());
        x.addStory(2);
        x.addStory(3);
        fails("52 a failing call does not count", STATE, () -> x.unplan(0));
        fails("52 a failing text does not count", STATE, () -> run(x, "story 1;end"));
        x.writeStory(0);
        x.save();
        is("52 nor does save", 1, x.undo());
        is("52 second last", 3, x.storyCount());
    }

    private static void promise52EachModification() {
        SprintBoard x = board(8, 5);
        x.addDeveloper(3);
        x.plan(0);
        x.startSprint(2);
        x.assign(0, 0);
        x.passDay();
        undoes("passDay", x, x::passDay, () -> x.leftOf(0) + 100 * x.daysPassed(), 105);
        undoes("endSprint", x, x::endSprint, () -> x.storyOf(0) + x.scope() + 100 * x.sprintCount(), 8);
        undoes("reestimate", x, () -> x.reestimate(0, 2), () -> x.estimateOf(0) + 10 * x.leftOf(0) + x.storyOf(0), 58);
        undoes("unassign", x, () -> x.unassign(0), () -> x.storyOf(0), 0);
        undoes("plan", x, () -> x.plan(1), x::scope, 8);
        undoes("block", x, () -> x.block(0, 1), () -> x.isBlocker(0, 1), false);
        undoes("addDeveloper", x, () -> x.addDeveloper(1), x::developerCount, 1);
        undoes("addStory", x, () -> x.addStory(1), x::storyCount, 2);
        undoes("execute", x, () -> run(x, "plan 1;free 0;unplan 0;end"), () -> x.scope() + 10 * x.developerOf(0), 8);
        x.block(0, 1);
        undoes("unblock", x, () -> x.unblock(0, 1), () -> x.isBlocker(0, 1), true);
        x.unassign(0);
        undoes("assign", x, () -> x.assign(0, 0), () -> x.unassign(0), null);
        undoes("unplan", x, () -> x.unplan(0), () -> x.isPlanned(0), true);
        x.endSprint();
        undoes("startSprint", x, () -> x.startSprint(1), x::isActive, false);
    }

    private static void promise52KeepsTextAndLine() {
        SprintBoard x = board(8);
        fails("52 malformed", ARGUMENT, () -> run(x, "dax"));
        fails("52 failing", STATE, () -> run(x, "story 1;end"));
        x.addStory(1);
        x.writeStory(1);
        x.type('d');
        x.undo();
        is("52 the line stays", "1:1/1", lineOf(x, 5));
        is("52 the buffer stays", 2, x.type('a'));
        is("52 the error position stays", 2, x.errorPosition());
        is("52 the failed command stays", 1, x.failedCommand());
    }

    private static void promise53() {
        SprintBoard x = board(8, 5);
        is("53 stories", 2, x.save());
        x.addStory(1);
        is("53 replaces", 3, x.save());
        x.addStory(1);
        x.restore();
        is("53 the later one", 3, x.storyCount());
        is("53 empty", 0, new SprintBoard().save());
        SprintBoard y = board(8);
        y.save();
        is("53 undo goes on", 0, y.undo());
        is("54 undone before", 1, y.restore());
    }

    private static void promise54() {
        SprintBoard x = working(8, 3);
        fails("54 no snapshot", STATE, x::restore);
        is("54 unchanged", 1, x.storyCount());
        x.passDay();
        x.save();
        x.writeStory(0);
        x.type('e');
        x.endSprint();
        x.addStory(1);
        x.addDeveloper(1);
        is("54 stories", 1, x.restore());
        is("54 active", true, x.isActive());
        is("54 days", 1, x.daysPassed());
        is("54 burn-down", 5, x.burnDown(1));
        is("54 left", 5, x.leftOf(0));
        is("54 assigned", 0, x.storyOf(0));
        is("54 scope", 8, x.scope());
        is("54 developers", 1, x.developerCount());
        fails("54 no velocity", INDEX, () -> x.velocityOf(0));
        fails("54 nothing to undo", STATE, x::undo);
        is("54 the buffer stays", 2, x.type('n'));
        is("54 the line stays", "0:5/8p@0", lineOf(x, 8));
        x.passDay();
        is("54 undo of what follows", 0, x.undo());
        x.passDay();
        is("54 the snapshot is kept", 1, x.restore());
        is("54 days again", 1, x.daysPassed());
    }

    private static void promise54TheSprint() {
        SprintBoard x = working(8, 3);
        x.passDay();
        x.save();
        x.endSprint();
        x.addStory(13);
        x.plan(1);
        x.startSprint(2);
        x.passDay();
        x.restore();
        is("54 burn-down of the start", 8, x.burnDown(0));
        is("54 burn-down of the day", 5, x.burnDown(1));
        is("54 length", 0f, x.idealBurnDown(10));
        is("54 scope of the start", 0, x.scopeChange());
        fails("54 longer than the length", FOUND, () -> x.idealBurnDown(11));
    }

    private static void promise54TheVelocities() {
        SprintBoard x = board(5, 3);
        finish(x, 0);
        x.save();
        x.undo();
        x.plan(1);
        x.unplan(0);
        x.endSprint();
        is("54 another velocity", 0, x.velocityOf(0));
        x.restore();
        is("54 velocity", 5, x.velocityOf(0));
        is("54 mean velocity", 5.0, x.meanVelocity());
    }

    private static int openAndDone(SprintBoard x, int story) {
        int blockers = 0;
        for (int blocker = 0; blocker < x.storyCount(); blocker++) {
            blockers += x.isBlocker(story, blocker) ? 1 : 0;
        }
        return blockers;
    }

    private static void bothFinish(SprintBoard x, int story, int days) {
        is("42 story " + story, days, x.finishDay(story));
        is("43 story " + story, days, x.finishDayByRecursion(story));
    }

    private static void neverFinishes(SprintBoard x, int story) {
        fails("42 never " + story, FOUND, () -> x.finishDay(story));
        fails("43 never " + story, FOUND, () -> x.finishDayByRecursion(story));
    }

    private static void writes(SprintBoard x, int story, String due) {
        is("44 length of " + due, due.length(), x.writeStory(story));
        is("44 line", due, lineOf(x, due.length()));
    }

    private static void undoes(String name, SprintBoard x, Call change, Call seen, Object due) {
        x.save();
        x.restore();
        change.answer();
        is("52 just " + name, 0, x.undo());
        if (due == null) {
            fails("52 " + name, STATE, seen);
        } else {
            is("52 " + name, due, seen.answer());
        }
    }

    private static String lineOf(SprintBoard x, int length) {
        StringBuilder line = new StringBuilder();
        for (int index = 0; index < length; index++) {
            line.append(x.lineAt(index));
        }
        return line.toString();
    }
}

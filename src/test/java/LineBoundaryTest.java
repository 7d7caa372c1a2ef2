/** The boundary cases of the line and the checks, promises 44 to 47; their numbers are in NumberBoundaryTest. */
public final class LineBoundaryTest extends Boards {
    private LineBoundaryTest() {
    }

    public static void main(String[] arguments) throws IllegalAccessException {
        runAll(LineBoundaryTest.class);
    }

    static void everyPartOfAStory() {
        sentence("44: then \"p\" if it is planned, \"b\" if it is blocked, and \"@\" and its developer if there is "
            + "one");
        SprintBoard x = board(13, 1, 3, 8);
        x.addDeveloper(3);
        x.addDeveloper(4);
        writes(x, 0, "0:13/13");
        x.block(0, 1);
        writes(x, 0, "0:13/13b");
        x.plan(0);
        writes(x, 0, "0:13/13pb");
        x.startSprint(10);
        x.assign(0, 1);
        writes(x, 0, "0:13/13pb@1");
        x.unblock(0, 1);
        writes(x, 0, "0:13/13p@1");
        x.unassign(1);
        writes(x, 0, "0:13/13p");
        x.assign(0, 0);
        writes(x, 0, "0:13/13p@0");
        pass(x, 4);
        writes(x, 0, "0:1/13p@0");
        x.passDay();
        writes(x, 0, "0:0/13p");
        x.unplan(0);
        writes(x, 0, "0:0/13");
    }

    static void doneStoryThatIsBlocked() {
        sentence("44: \"b\" if it is blocked");
        SprintBoard x = working(8, 3);
        x.addStory(1);
        x.passDay();
        x.block(0, 1);
        x.reestimate(0, 2);
        writes(x, 0, "0:0/2pb");
    }

    static void longestStory() {
        sentence("44: Returns the length of the line");
        SprintBoard x = stories(15);
        x.addStory(13);
        x.block(15, 0);
        x.plan(15);
        x.startSprint(1);
        for (int speed = 1; speed <= 4; speed++) {
            x.addDeveloper(speed);
        }
        x.assign(15, 3);
        writes(x, 15, "15:13/13pb@3");
        writes(x, 0, "0:1/1");
        writes(x, 9, "9:1/1");
        writes(x, 10, "10:1/1");
    }

    static void previousLineIsReplaced() {
        sentence("44: Writes a story into the line, which replaces the previous line");
        SprintBoard x = busy();
        writes(x, 2, "2:5/5pb@1");
        writes(x, 1, "1:0/3");
        is("45: by the burn-down", 5, x.writeBurnDown());
        is("45: the line", "13 10", line(x));
        is("by a story again", 5, x.writeStory(1));
        is("the line", "1:0/3", line(x));
    }

    static void burnDownOfOneOrElevenDays() {
        sentence("45: its numbers from day 0 on with a blank between two of them");
        SprintBoard x = working(13, 2);
        String[] due = {"13", "13 11", "13 11 9", "13 11 9 7", "13 11 9 7 5", "13 11 9 7 5 3", "13 11 9 7 5 3 1",
            "13 11 9 7 5 3 1 0", "13 11 9 7 5 3 1 0 0", "13 11 9 7 5 3 1 0 0 0", "13 11 9 7 5 3 1 0 0 0 0"};
        for (int day = 0; day <= 10; day++) {
            is("length on day " + day, due[day].length(), x.writeBurnDown());
            is("line on day " + day, due[day], line(x));
            outcome(x::passDay);
        }
        SprintBoard nothing = new SprintBoard();
        nothing.startSprint(1);
        is("of nothing", 1, nothing.writeBurnDown());
        is("the line of nothing", "0", line(nothing));
    }

    static void burnDownOfNoSprint() {
        sentence("45: the line is empty if no sprint is active");
        SprintBoard x = new SprintBoard();
        is("never", 0, x.writeBurnDown());
        is("the line", "", line(x));
        SprintBoard ended = busy();
        ended.endSprint();
        is("ended", 0, ended.writeBurnDown());
        is("the line before is replaced", "", line(ended));
        SprintBoard undone = new SprintBoard();
        undone.startSprint(1);
        undone.writeBurnDown();
        undone.undo();
        is("undone", 0, undone.writeBurnDown());
    }

    static void burnDownOfTheNextSprint() {
        sentence("45: Writes the burn-down of the active sprint");
        SprintBoard x = working(13, 2);
        pass(x, 10);
        x.endSprint();
        x.addStory(8);
        x.plan(1);
        x.startSprint(1);
        is("only day 0", 1, x.writeBurnDown());
        is("the line", "8", line(x));
    }

    static void emptyLine() {
        sentence("46: a character of the line, which is empty at first");
        refuses("at first", INDEX, SprintBoard::new, x -> x.lineAt(0));
        refuses("with stories", INDEX, Boards::full, x -> x.lineAt(0));
        SprintBoard x = stories(1);
        fails("a refused story", INDEX, () -> x.writeStory(1));
        fails("then it is still empty", INDEX, () -> x.lineAt(0));
    }

    static void firstAndLastSign() {
        sentence("46: index of the character, from 0");
        SprintBoard x = full();
        int length = x.writeStory(15);
        is("the first", '1', x.lineAt(0));
        is("the last", '1', x.lineAt(length - 1));
        is("the colon", ':', x.lineAt(2));
        is("the slash", '/', x.lineAt(4));
        is("the length", 6, length);
    }

    static void refusedStoryKeepsTheLine() {
        sentence("44: A method that throws an exception leaves the state unchanged");
        SprintBoard x = busy();
        for (int story : numbersOutside(4)) {
            fails("story " + story, INDEX, () -> x.writeStory(story));
            is("the line", "2:5/5pb@1", line(x));
        }
    }

    static void consistentFromEmptyToFull() {
        sentence("47: Returns whether the board is consistent");
        is("empty", true, new SprintBoard().isConsistent());
        is("busy", true, busy().isConsistent());
        is("full", true, full().isConsistent());
        is("a chain of all", true, chain().isConsistent());
        SprintBoard x = allWorking(1, new int[] {13, 13, 13, 13}, 1, 1, 1, 1);
        for (int story = 0; story < 3; story++) {
            x.block(story, story + 1);
        }
        is("the longest work", true, x.isConsistent());
        x.passDay();
        is("all days have passed", true, x.isConsistent());
        x.endSprint();
        is("ended", true, x.isConsistent());
    }

    static void consistentAfterChangesBack() {
        sentence("47: Returns whether the board is consistent");
        SprintBoard x = busy();
        x.reestimate(0, 2);
        is("done by its estimate", true, x.isConsistent());
        x.undo();
        is("undone", true, x.isConsistent());
        x.restore();
        is("restored", true, x.isConsistent());
        is("nothing is told apart afterwards", state(after(Boards::busy, SprintBoard::restore)), state(x));
    }

    private static void writes(SprintBoard x, int story, String due) {
        is("length of " + due, due.length(), x.writeStory(story));
        is("line of story " + story, due, line(x));
    }
}

import java.util.ArrayDeque;
import java.util.Deque;
import java.util.function.Consumer;
import java.util.function.Supplier;

/** The boundary cases of undo and snapshots, promises 52 to 54. */
public final class UndoBoundaryTest extends Boards {
    private static final String MODIFICATIONS =
        "52: The modifications are the successful calls of addStory, addDeveloper, block, unblock, plan, unplan, "
            + "startSprint, assign, unassign, reestimate, passDay, endSprint and execute";

    private UndoBoundaryTest() {
    }

    public static void main(String[] arguments) throws IllegalAccessException {
        runAll(UndoBoundaryTest.class);
    }

    static void nothingToUndo() {
        sentence("52: Throws IllegalStateException if there is none");
        refuses("new", STATE, SprintBoard::new, SprintBoard::undo);
        refuses("only questions, a text and a line", STATE, () -> after(SprintBoard::new, x -> {
            type(x, "story 1");
            x.writeBurnDown();
            x.storyCount();
            x.isConsistent();
        }), SprintBoard::undo);
        refuses("saved only", STATE, () -> after(SprintBoard::new, SprintBoard::save), SprintBoard::undo);
        refuses("the only one is undone", STATE, () -> after(() -> stories(1), SprintBoard::undo), SprintBoard::undo);
        refuses("eight are undone", STATE, () -> after(Boards::busy, x -> undo(x, 8)), SprintBoard::undo);
        refuses("restored", STATE, () -> after(Boards::busy, SprintBoard::restore), SprintBoard::undo);
        refuses("all were refused", STATE, () -> after(SprintBoard::new, x -> {
            outcome(() -> x.addStory(4));
            outcome(x::endSprint);
            outcome(() -> run(x, "dev 1;end"));
            outcome(() -> run(x, "dev 1;"));
        }), SprintBoard::undo);
    }

    static void lastEightOfSome() {
        sentence("52: The last 8 successful modifications can be undone");
        for (int count = 1; count <= 16; count++) {
            SprintBoard x = stories(count);
            int most = Math.min(count, 8);
            for (int undone = 1; undone <= most; undone++) {
                is("can still be undone, of " + count, most - undone, x.undo());
                is("6: stories of " + count, count - undone, x.storyCount());
            }
            fails("no more of " + count, STATE, x::undo);
            is("6: the others stay, of " + count, count - most, x.storyCount());
        }
    }

    static void roundAndRound() {
        sentence("52: Undoes the last modification that can be undone");
        SprintBoard x = board(13);
        x.save();
        x.restore();
        Deque<Integer> before = new ArrayDeque<>();
        int[] changes = {20, 5, 9, 1, 7, 12, 5, 16, 2, 8, 3, 31};
        int[] undos = {3, 8, 1, 4, 8, 5, 7, 2, 9, 8, 9, 9};
        for (int round = 0; round < changes.length; round++) {
            for (int change = 0; change < changes[round]; change++) {
                before.addLast(x.estimateOf(0));
                x.reestimate(0, ESTIMATES[(round + change) % ESTIMATES.length]);
            }
            while (before.size() > 8) {
                before.removeFirst();
            }
            for (int undo = 0; undo < undos[round]; undo++) {
                undoesAnEstimate("round " + round + ", undo " + undo, x, before);
            }
        }
    }

    static void eachModification() {
        sentence(MODIFICATIONS);
        comesBack("addStory", Boards::busy, x -> x.addStory(8));
        comesBack("the 16th addStory", () -> stories(15), x -> x.addStory(8));
        comesBack("addDeveloper", Boards::busy, x -> x.addDeveloper(4));
        comesBack("block", Boards::busy, x -> x.block(3, 0));
        comesBack("unblock", Boards::busy, x -> x.unblock(2, 0));
        comesBack("plan", Boards::busy, x -> x.plan(3));
        comesBack("unplan", () -> after(Boards::busy, x -> x.plan(3)), x -> x.unplan(3));
        comesBack("assign", () -> after(Boards::busy, x -> x.plan(3)), x -> x.assign(3, 2));
        comesBack("unassign", Boards::busy, x -> x.unassign(1));
        comesBack("reestimate", Boards::busy, x -> x.reestimate(0, 13));
        comesBack("reestimate of what is done then", Boards::busy, x -> x.reestimate(0, 3));
        comesBack("execute of one", Boards::busy, x -> run(x, "y"));
        comesBack("execute of many", Boards::busy, x -> run(x, "y;end;story 1;start 9;plan 4;assign 4 0;day"));
    }

    static void eachModificationOfTheSprint() {
        sentence(MODIFICATIONS);
        comesBack("startSprint", () -> after(Boards::busy, SprintBoard::endSprint), x -> x.startSprint(10));
        comesBack("passDay", Boards::busy, SprintBoard::passDay);
        comesBack("the last passDay", () -> after(Boards::busy, SprintBoard::passDay), SprintBoard::passDay);
        comesBack("endSprint", Boards::busy, SprintBoard::endSprint);
        comesBack("the 9th endSprint", UndoBoundaryTest::inTheNinthSprint, SprintBoard::endSprint);
        comesBack("the 9th startSprint", () -> after(UndoBoundaryTest::inTheNinthSprint, SprintBoard::undo),
            x -> x.startSprint(1));
    }

    static void modificationThatChangesNothing() {
        sentence("52: The last 8 successful modifications can be undone");
        SprintBoard x = board(5);
        is("the same estimate", 5, x.reestimate(0, 5));
        is("counts too", 1, x.undo());
        x.startSprint(1);
        x.passDay();
        is("a day without work counts too", 2, x.undo());
    }

    static void executeIsOne() {
        sentence(MODIFICATIONS);
        SprintBoard x = new SprintBoard();
        run(x, "story 1;story 2;story 3;story 5;story 8;story 13;dev 1;dev 2");
        is("eight commands are one", 0, x.undo());
        is("6: all undone", 0, x.storyCount());
        is("21: all undone", 0, x.developerCount());
        for (int count = 0; count < 9; count++) {
            run(x, "story 1");
        }
        is("nine texts are eight", 7, x.undo());
        is("what can be undone then", "6 5 4 3 2 1 0 ", undone(x).substring(0, 14));
        is("6: the first text stays", 1, x.storyCount());
    }

    static void undoIsNone() {
        sentence(MODIFICATIONS);
        SprintBoard x = stories(3);
        x.undo();
        x.undo();
        is("one is left", 0, x.undo());
        is("6: none comes back", 0, x.storyCount());
        fails("nor can undo be undone", STATE, x::undo);
    }

    static void otherCallsAreNone() {
        sentence(MODIFICATIONS);
        SprintBoard x = stories(2);
        x.save();
        x.writeStory(0);
        x.writeBurnDown();
        x.isConsistent();
        outcome(() -> x.finishDay(0));
        outcome(() -> x.finishDayByRecursion(0));
        outcome(() -> run(x, "end"));
        outcome(() -> run(x, "x"));
        type(x, "end");
        is("still two, one after undo", 1, x.undo());
    }

    static void textAndLineStay() {
        sentence("52: The text buffer, the error position, the index of the failed command and the line are not part "
            + "of the state that is undone, saved or restored");
        SprintBoard undone = busy();
        undo(undone, 8);
        textAndLineAsBusy("undone", undone);
        SprintBoard restored = busy();
        restored.restore();
        textAndLineAsBusy("restored", restored);
        SprintBoard saved = busy();
        saved.save();
        textAndLineAsBusy("saved", saved);
    }

    static void saveFromEmptyToFull() {
        sentence("53: Returns the number of stories");
        is("empty", 0, new SprintBoard().save());
        is("one", 1, stories(1).save());
        is("full", 16, full().save());
        SprintBoard x = full();
        x.undo();
        is("one undone", 15, x.save());
    }

    static void laterSnapshot() {
        sentence("53: Saves the state as a snapshot, which replaces an earlier snapshot");
        SprintBoard x = full();
        x.save();
        undo(x, 8);
        is("a smaller one", 8, x.save());
        x.addStory(1);
        is("54: the later one", 8, x.restore());
        x.addStory(13);
        x.save();
        is("54: saved after restore", 9, x.restore());
        is("7: its last story", 13, x.estimateOf(8));
        fails("its stories are all", INDEX, () -> x.estimateOf(9));
    }

    static void saveLeavesWhatCanBeUndone() {
        sentence("53: Saves the state as a snapshot");
        SprintBoard x = stories(9);
        is("saved", 9, x.save());
        is("what can be undone", "7 6 5 4 3 2 1 0 ", undone(x).substring(0, 16));
        is("54: undo leaves the snapshot", 9, x.restore());
    }

    static void noSnapshot() {
        sentence("54: Throws IllegalStateException if there is no snapshot");
        refuses("new", STATE, SprintBoard::new, SprintBoard::restore);
        refuses("with stories", STATE, Boards::full, SprintBoard::restore);
        refuses("in a sprint", STATE, () -> working(8, 3), SprintBoard::restore);
        refuses("undone", STATE, () -> after(() -> working(8, 3), SprintBoard::undo), SprintBoard::restore);
    }

    static void emptySnapshot() {
        sentence("54: Returns the number of stories");
        SprintBoard x = new SprintBoard();
        x.save();
        run(x, "story 8;dev 3;plan 0;start 2;assign 0 0;day");
        is("none", 0, x.restore());
        is("as a new one", state(new SprintBoard()), state(x));
        is("2: the first story", 0, x.addStory(5));
        is("8: its points", 5, x.leftOf(0));
        is("18: the first developer", 0, x.addDeveloper(1));
        fails("23: who is not assigned", FOUND, () -> x.storyOf(0));
        is("27: the first sprint", 0, x.startSprint(1));
    }

    static void fullSnapshot() {
        sentence("54: Returns the number of stories");
        SprintBoard x = chain();
        x.undo();
        x.save();
        x.block(14, 15);
        undo(x, 8);
        is("all", 16, x.restore());
        is("16: its chain", 15, x.longestChain(0));
        fails("2: one more", STATE, () -> x.addStory(1));
    }

    static void snapshotIsKept() {
        sentence("54: Restores the snapshot, which is kept");
        SprintBoard x = busy();
        x.save();
        String due = state(x);
        x.endSprint();
        x.restore();
        is("once", due, state(x));
        run(x, "y;free 1;unblock 2 0;points 0 2;story 1;unplan 2;plan 3");
        x.restore();
        is("twice", due, state(x));
        is("at once", 4, x.restore());
    }

    static void nothingCanBeUndoneAfterwards() {
        sentence("54: Afterwards nothing can be undone");
        for (int count = 0; count <= 9; count++) {
            SprintBoard x = new SprintBoard();
            x.save();
            for (int story = 0; story < count; story++) {
                x.addStory(1);
            }
            x.restore();
            fails("after " + count, STATE, x::undo);
            x.addStory(13);
            is("the one that follows " + count, 0, x.undo());
            fails("not those before, " + count, STATE, x::undo);
            is("6: none, " + count, 0, x.storyCount());
        }
    }

    static void snapshotOfVelocitiesThatEndedOtherwise() {
        sentence("54: Restores the snapshot, which is kept");
        SprintBoard x = inTheNinthSprint();
        x.endSprint();
        x.save();
        String due = state(x);
        x.undo();
        x.assign(1, 0);
        x.passDay();
        is("29: the ninth sprint ends otherwise", 1, x.endSprint());
        x.restore();
        is("as it ended at first", due, state(x));
        is("40: its velocity", 0, x.velocityOf(8));
    }

    private static void undoesAnEstimate(String what, SprintBoard x, Deque<Integer> before) {
        Object due = before.isEmpty() ? STATE : (Object) (before.size() - 1);
        int estimate = before.isEmpty() ? x.estimateOf(0) : before.removeLast();
        is(what, due, outcome(x::undo));
        is(what + ", then the estimate", estimate, x.estimateOf(0));
    }

    private static void undo(SprintBoard x, int count) {
        for (int undone = 0; undone < count; undone++) {
            x.undo();
        }
    }

    private static SprintBoard inTheNinthSprint() {
        SprintBoard x = board(5, 1);
        finish(x, 0);
        for (int sprint = 1; sprint < 8; sprint++) {
            x.startSprint(1);
            x.endSprint();
        }
        x.plan(1);
        x.startSprint(10);
        return x;
    }

    /** The modification changes what the questions tell, and undo as well as restore bring that back. */
    private static void comesBack(String name, Supplier<SprintBoard> made, Consumer<SprintBoard> modification) {
        String due = state(made.get());
        SprintBoard undone = after(made, modification);
        is(name + " changes the state", false, due.equals(state(undone)));
        undone.undo();
        is(name + " is undone", due, state(undone));
        SprintBoard restored = made.get();
        is("53: before " + name, restored.storyCount(), restored.save());
        modification.accept(restored);
        is("54: after " + name, made.get().storyCount(), restored.restore());
        is("54: " + name + " is taken back", due, state(restored));
    }

    private static void textAndLineAsBusy(String what, SprintBoard x) {
        is(what + ", line", line(busy()), line(x));
        is(what + ", buffer", 3, x.type('x'));
        is(what + ", error position", 6, x.errorPosition());
        is(what + ", failed command", 1, x.failedCommand());
        fails(what + ", text", ARGUMENT, x::execute);
        is(what + ", its error position", 2, x.errorPosition());
    }
}

import java.io.IOException;
import java.nio.file.Files;
import java.nio.file.Path;
import java.util.List;

/** The examples of README.md: each call stands there, with the answer that the class gives. */
public final class ReadmeTest extends Boards {
    private static final SprintBoard board = new SprintBoard();
    private static List<String> readme;
    private static int made;

    private ReadmeTest() {
    }

    public static void main(String[] arguments) throws IOException {
        readme = Files.readAllLines(Path.of("README.md"));
        storiesAndDays();
        blockers();
        line();
        text();
        undoAndSnapshot();
        long calls = readme.stream().filter(told -> told.contains("board.") && told.contains("; ")).count();
        is("each call with an answer is made here", calls, (long) made);
        checks.end();
    }

    private static void storiesAndDays() {
        answers("int story = board.addStory(5);", board.addStory(5));
        answers("int developer = board.addDeveloper(2);", board.addDeveloper(2));
        answers("board.plan(story);", board.plan(0));
        answers("board.startSprint(5);", board.startSprint(5));
        answers("board.assign(story, developer);", board.assign(0, 0));
        answers("board.passDay();", board.passDay());
        answers("board.leftOf(story);", board.leftOf(0));
        answers("board.finishDay(story);", board.finishDay(0));
    }

    private static void blockers() {
        answers("board.addStory(3);", board.addStory(3));
        answers("board.block(1, story);", board.block(1, 0));
        answers("board.isBlocked(1);", board.isBlocked(1));
        answers("board.dependsOn(1, story);", board.dependsOn(1, 0));
        answers("board.longestChain(1);", board.longestChain(1));
    }

    private static void line() {
        answers("int length = board.writeBurnDown();", board.writeBurnDown());
        answers("line.append(board.lineAt(index));", "\"" + line(board) + "\"");
    }

    private static void text() {
        String text = "unblock 1 0;plan 1;day;day;end";
        is("the text", true, readme.contains("String text = \"" + text + "\";"));
        type(board, text);
        answers("board.execute();", board.execute());
        answers("board.velocityOf(0);", board.velocityOf(0));
    }

    private static void undoAndSnapshot() {
        answers("board.undo();", board.undo());
        answers("board.isActive();", board.isActive());
        answers("board.save();", board.save());
        answers("board.endSprint();", board.endSprint());
        answers("board.restore();", board.restore());
        fails("nothing can be undone", STATE, board::undo);
    }

    /** The file has the call, and the first word behind it is the answer. */
    private static void answers(String call, Object answer) {
        made++;
        String due = call + " // " + answer;
        boolean stands = readme.stream().map(told -> told.strip().replaceAll(" +//", " //"))
            .anyMatch(told -> told.equals(due) || told.startsWith(due + " ") || told.startsWith(due + ","));
        is(due, true, stands);
    }
}

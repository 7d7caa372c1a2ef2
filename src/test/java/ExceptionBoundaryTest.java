/** "If several exceptions apply, the one that is documented first is thrown", for every two that can apply at once. */
public final class ExceptionBoundaryTest extends Boards {
    private ExceptionBoundaryTest() {
    }

    public static void main(String[] arguments) throws IllegalAccessException {
        runAll(ExceptionBoundaryTest.class);
    }

    static void addStory() {
        sentence("2: If several exceptions apply, the one that is documented first is thrown");
        for (int points : NO_ESTIMATES) {
            refuses("no estimate " + points + " before 16 stories", ARGUMENT, Boards::full, x -> x.addStory(points));
        }
    }

    static void reestimate() {
        sentence("3: If several exceptions apply, the one that is documented first is thrown");
        for (int points : NO_ESTIMATES) {
            refuses("no story before no estimate " + points, INDEX, Boards::busy, x -> x.reestimate(4, points));
            refuses("no story before no estimate " + points, INDEX, Boards::busy, x -> x.reestimate(-1, points));
            refuses("no estimate " + points + " before done", ARGUMENT, Boards::busy, x -> x.reestimate(1, points));
        }
    }

    static void block() {
        sentence("4: If several exceptions apply, the one that is documented first is thrown");
        refuses("no story before the same", INDEX, Boards::busy, x -> x.block(4, 4));
        refuses("no story before the same", INDEX, Boards::busy, x -> x.block(-1, -1));
        refuses("no blocker before done", INDEX, Boards::busy, x -> x.block(1, 4));
        refuses("the same before done", ARGUMENT, Boards::busy, x -> x.block(1, 1));
        refuses("done before dependence", STATE, () -> after(Boards::busy, x -> x.block(0, 1)), x -> x.block(1, 0));
        refuses("done before far dependence", STATE, () -> after(Boards::busy, x -> x.block(0, 1)),
            x -> x.block(1, 2));
        SprintBoard x = working(8, 3);
        x.addStory(1);
        x.passDay();
        x.block(0, 1);
        x.reestimate(0, 1);
        fails("already and done", STATE, () -> x.block(0, 1));
    }

    static void unblock() {
        sentence("5: If several exceptions apply, the one that is documented first is thrown");
        refuses("no story before no blocker of it", INDEX, Boards::busy, x -> x.unblock(4, 4));
        refuses("no blocker before no blocker of it", INDEX, Boards::busy, x -> x.unblock(2, 4));
    }

    static void addDeveloper() {
        sentence("18: If several exceptions apply, the one that is documented first is thrown");
        for (int speed : new int[] {Integer.MIN_VALUE, -1, 0, 5, Integer.MAX_VALUE}) {
            refuses("speed " + speed + " before 4 developers", ARGUMENT, () -> developers(1, 2, 3, 4),
                x -> x.addDeveloper(speed));
        }
    }

    static void assign() {
        sentence("19: If several exceptions apply, the one that is documented first is thrown");
        refuses("no story before no sprint", INDEX, () -> developers(1), x -> x.assign(0, 0));
        refuses("no developer before no sprint", INDEX, () -> stories(1), x -> x.assign(0, 0));
        refuses("no story before an assigned developer", INDEX, Boards::busy, x -> x.assign(4, 0));
        refuses("no developer before a story that is not planned", INDEX, Boards::busy, x -> x.assign(3, 3));
        refuses("no developer before a done story", INDEX, Boards::busy, x -> x.assign(1, -1));
        refuses("no developer before a story that has one", INDEX, Boards::busy, x -> x.assign(0, 3));
        refuses("no sprint before not planned", SUPPORT, () -> after(() -> stories(1), x -> x.addDeveloper(1)),
            x -> x.assign(0, 0));
        refuses("no sprint before done", SUPPORT, () -> after(Boards::busy, SprintBoard::endSprint),
            x -> x.assign(1, 0));
    }

    static void startSprint() {
        sentence("27: If several exceptions apply, the one that is documented first is thrown");
        for (int days : new int[] {Integer.MIN_VALUE, -1, 0, 11, Integer.MAX_VALUE}) {
            refuses("length " + days + " before an active sprint", ARGUMENT, Boards::busy, x -> x.startSprint(days));
            refuses("length " + days + " before nine sprints", ARGUMENT, () -> after(SprintBoard::new, x -> {
                for (int sprint = 0; sprint < 9; sprint++) {
                    x.startSprint(1);
                    x.endSprint();
                }
            }), x -> x.startSprint(days));
        }
    }

    static void finishDay() {
        sentence("42: If several exceptions apply, the one that is documented first is thrown");
        refuses("no story before never", INDEX, SprintBoard::new, x -> x.finishDay(0));
        refuses("43: no story before never", INDEX, SprintBoard::new, x -> x.finishDayByRecursion(0));
    }

    static void type() {
        sentence("48: If several exceptions apply, the one that is documented first is thrown");
        for (char character : new char[] {0, 31, 127, 65535}) {
            refuses("character " + (int) character + " before 60", ARGUMENT,
                () -> after(SprintBoard::new, x -> type(x, "x".repeat(60))), x -> x.type(character));
        }
    }

    static void execute() {
        sentence("49: If several exceptions apply, the one that is documented first is thrown");
        SprintBoard x = new SprintBoard();
        fails("a malformed end before a failing beginning", ARGUMENT, () -> run(x, "end;x"));
        is("50: its position", 4, outcome(x::errorPosition));
        fails("51: no command failed", FOUND, x::failedCommand);
    }
}

import java.util.function.Function;
import java.util.function.Supplier;

/** The boundary cases of command texts, promises 48 to 51. */
public final class TextBoundaryTest extends Boards {
    private static final String[] KEYWORDS = {"story", "dev", "block", "unblock", "plan", "unplan", "start", "assign",
        "free", "points", "day", "end"};
    private static final String[] ONE_DIGIT_EACH = {"story 5", "dev 2", "block 1 0", "unblock 1 0", "plan 0",
        "unplan 0", "start 3", "assign 0 1", "free 1", "points 0 5", "day", "end"};
    private static final int[] NUMBERS = {0, 1, 2, 3, 4, 5, 8, 9, 10, 11, 13, 14, 15, 16, 32, 99};

    /** Eight commands in exactly 60 characters. */
    private static final String SIXTY = "story 1;story 2;story 3;story 5;story 8;story 13;dev 1;dev 2";
    private static final String FIFTEEN_DAYS = "day;day;day;day;day;day;day;day;day;day;day;day;day;day;day";
    private static final String TEN_DAYS = "day;day;day;day;day;day;day;day;day;day";

    private TextBoundaryTest() {
    }

    public static void main(String[] arguments) throws IllegalAccessException {
        runAll(TextBoundaryTest.class);
    }

    static void charactersOutside() {
        sentence("48: Throws IllegalArgumentException if the character is not from 32 to 126");
        for (int character : new int[] {0, 9, 10, 31, 127, 128, 160, 255, 256 + 'd', 32768, 65535}) {
            refuses("character " + character, ARGUMENT, SprintBoard::new, x -> x.type((char) character));
            refuses("character " + character + " after others", ARGUMENT, Boards::busy,
                x -> x.type((char) character));
        }
        for (int character = 32; character <= 126; character++) {
            is("character " + character, 1, new SprintBoard().type((char) character));
        }
    }

    static void sixtyCharacters() {
        sentence("48: Throws IllegalStateException if the buffer contains 60 characters");
        SprintBoard x = new SprintBoard();
        for (int length = 1; length <= 60; length++) {
            is("length", length, x.type(' '));
        }
        fails("one more", STATE, () -> x.type(' '));
        refuses("one more of a text", STATE, () -> after(SprintBoard::new, y -> type(y, SIXTY)), y -> y.type(';'));
        fails("49: empties it", ARGUMENT, x::execute);
        is("room again", 1, x.type(' '));
    }

    static void refusedCharacterIsNotInTheText() {
        sentence("48: A method that throws an exception leaves the state unchanged");
        SprintBoard x = new SprintBoard();
        type(x, SIXTY);
        outcome(() -> x.type('x'));
        is("the text of 60", 8, x.execute());
        type(x, "dev");
        outcome(() -> x.type((char) 31));
        outcome(() -> x.type((char) 127));
        type(x, " 3");
        is("a text with wrong ones between", 1, x.execute());
        is("its command", 3, x.speedOf(2));
    }

    static void bufferIsEmptyAfterwards() {
        sentence("49: Executes the text in the buffer, which is empty afterwards");
        SprintBoard x = new SprintBoard();
        run(x, SIXTY);
        is("after all commands", 1, x.type('x'));
        fails("malformed", ARGUMENT, x::execute);
        is("after a malformed text", 1, x.type('e'));
        type(x, "nd");
        fails("failing", STATE, x::execute);
        is("after a failing command", 1, x.type('x'));
        outcome(x::execute);
        fails("nothing is left", ARGUMENT, x::execute);
        is("after an empty text", 1, x.type('x'));
    }

    static void fewestAndMostCommands() {
        sentence("49: Returns the number of commands");
        is("one", 1, run(new SprintBoard(), "dev 1"));
        is("in 60 characters", 8, run(new SprintBoard(), SIXTY));
        SprintBoard x = new SprintBoard();
        x.startSprint(10);
        is("fourteen", 14, run(x, TEN_DAYS + ";end;start 9;day;day"));
        is("32: the days", 2, x.daysPassed());
        is("31: the sprints", 1, x.sprintCount());
    }

    static void firstAndLastCommandThatFails() {
        sentence("51: Returns the index of the command, from 0");
        refusesText("without a sprint", STATE, SprintBoard::new, FIFTEEN_DAYS, 0);
        for (int days = 1; days <= 10; days++) {
            int length = days;
            refusesText("in " + days + " days", STATE, () -> after(SprintBoard::new, x -> x.startSprint(length)),
                FIFTEEN_DAYS, days);
        }
        refusesText("the last of fourteen", STATE, () -> after(SprintBoard::new, x -> x.startSprint(10)),
            TEN_DAYS + ";end;start 1;day;day", 13);
        refusesText("the first of two that would", STATE, TextBoundaryTest::busyWithoutText, "dev 4;dev 4;end;end", 1);
    }

    static void emptyText() {
        sentence("49: Throws IllegalArgumentException if the text is malformed");
        refusesText("empty", ARGUMENT, SprintBoard::new, "", 0);
        refusesText("empty on a busy board", ARGUMENT, TextBoundaryTest::busyWithoutText, "", 0);
        refusesText("a blank", ARGUMENT, TextBoundaryTest::busyWithoutText, " ", 0);
        refusesText("only a separator", ARGUMENT, TextBoundaryTest::busyWithoutText, ";", 0);
    }

    static void malformedAtItsEndChangesNothing() {
        sentence("49: Throws IllegalArgumentException if the text is malformed");
        refusesText("behind good commands", ARGUMENT, TextBoundaryTest::busyWithoutText, "story 1;day;plan 3;x", 19);
        refusesText("an open end", ARGUMENT, TextBoundaryTest::busyWithoutText, "free 0;end;", 11);
        refusesText("a number too short", ARGUMENT, TextBoundaryTest::busyWithoutText, "day;start ", 10);
        refusesText("before a command that would fail", ARGUMENT, TextBoundaryTest::busyWithoutText, "story 4;x", 8);
    }

    static void takenBack() {
        sentence("49: if a command fails, the effects of the commands before it are taken back");
        String[] texts = {"story 5", "dev 4", "block 3 0", "unblock 2 0", "plan 3", "free 0", "points 0 13",
            "points 0 3", "day", "end", "day;day", "free 1;unplan 2", "plan 3;assign 3 2", "end;start 5;day",
            "block 0 3;points 0 1", "unblock 2 0;free 1;unplan 2;end;start 1;day",
            "story 8;plan 4;assign 4 2;day;free 2;unplan 4"};
        for (String text : texts) {
            int commands = text.split(";").length;
            SprintBoard x = busyWithoutText();
            is(text + " does not fail", commands, run(x, text));
            is(text + " has effects", false, state(x).equals(state(busyWithoutText())));
            refusesText(text + " before it", STATE, TextBoundaryTest::busyWithoutText, text + ";story 4", commands);
        }
    }

    static void everyCommandAsItsMethod() {
        sentence("49: A command fails if the method for it would throw an exception");
        for (int first : NUMBERS) {
            likeTheMethod("story " + first, x -> x.addStory(first));
            likeTheMethod("plan " + first, x -> x.plan(first));
            likeTheMethod("unplan " + first, x -> x.unplan(first));
            likeTheMethod("start " + first, x -> x.startSprint(first));
            for (int second : NUMBERS) {
                likeTheMethod("block " + first + " " + second, x -> x.block(first, second));
                likeTheMethod("unblock " + first + " " + second, x -> x.unblock(first, second));
                likeTheMethod("points " + first + " " + second, x -> x.reestimate(first, second));
            }
            for (int digit = 0; digit <= 9; digit++) {
                int developer = digit;
                likeTheMethod("assign " + first + " " + digit, x -> x.assign(first, developer));
            }
        }
        for (int digit = 0; digit <= 9; digit++) {
            int number = digit;
            likeTheMethod("dev " + digit, x -> x.addDeveloper(number));
            likeTheMethod("free " + digit, x -> x.unassign(number));
        }
        likeTheMethod("day", SprintBoard::passDay);
        likeTheMethod("end", SprintBoard::endSprint);
    }

    static void numbersOfOneAndTwoDigits() {
        sentence("49: d is a blank and a decimal digit, and n is a blank and one or two decimal digits");
        likeTheMethod("story 05", x -> x.addStory(5));
        likeTheMethod("plan 00", x -> x.plan(0));
        likeTheMethod("plan 03", x -> x.plan(3));
        likeTheMethod("plan 15", x -> x.plan(15));
        likeTheMethod("unplan 02", x -> x.unplan(2));
        likeTheMethod("start 01", x -> x.startSprint(1));
        likeTheMethod("start 10", x -> x.startSprint(10));
        likeTheMethod("block 03 00", x -> x.block(3, 0));
        likeTheMethod("block 00 03", x -> x.block(0, 3));
        likeTheMethod("block 15 14", x -> x.block(15, 14));
        likeTheMethod("unblock 02 00", x -> x.unblock(2, 0));
        likeTheMethod("assign 03 2", x -> x.assign(3, 2));
        likeTheMethod("points 00 03", x -> x.reestimate(0, 3));
        likeTheMethod("points 15 13", x -> x.reestimate(15, 13));
    }

    static void tooManyDigits() {
        sentence("49: d is a blank and a decimal digit, and n is a blank and one or two decimal digits");
        String[] texts = {"story 13", "block 1 11", "unblock 1 11", "plan 10", "unplan 10", "start 10", "points 1 13",
            "dev 1", "assign 1 1", "assign 11 1", "free 1", "block 11", "unblock 11", "points 11", "assign 11"};
        for (String text : texts) {
            for (char digit = '0'; digit <= '9'; digit++) {
                malformed(text + digit, text.length());
                malformed("day;" + text + digit + ";day", text.length() + 4);
            }
        }
    }

    static void endsTooEarly() {
        sentence("50: or its length if it ends too early");
        for (String text : ONE_DIGIT_EACH) {
            for (int length = 0; length < text.length(); length++) {
                String start = text.substring(0, length);
                malformed(start, length);
                malformed("day;" + start, length + 4);
            }
            malformed(text + ";", text.length() + 1);
        }
    }

    static void endsTooEarlyAtSixty() {
        sentence("50: or its length if it ends too early");
        malformed(FIFTEEN_DAYS + ";", 60);
        malformed(SIXTY.substring(0, 55) + "point", 60);
        malformed(SIXTY.substring(0, 55) + "free ", 60);
        malformed(SIXTY.substring(0, 59) + " ", 59);
        malformed(SIXTY.substring(0, 59) + ";", 59);
    }

    static void everySignInAKeyword() {
        sentence("50: the index of its first character that cannot continue any valid text");
        for (String keyword : KEYWORDS) {
            for (int length = 0; length < keyword.length(); length++) {
                for (char sign = ' '; sign <= '~'; sign++) {
                    String text = keyword.substring(0, length) + sign;
                    int position = beginsAKeyword(text) ? length + 1 : length;
                    if (!text.equals("day") && !text.equals("end")) {
                        malformed(text, position);
                        malformed("end;" + text, position + 4);
                    }
                    if (position == length) {
                        malformed(text + keyword.substring(length) + ";x", position);
                    }
                }
            }
        }
    }

    static void everySignBehindAKeyword() {
        sentence("50: the index of its first character that cannot continue any valid text");
        for (String text : ONE_DIGIT_EACH) {
            String keyword = text.split(" ")[0];
            boolean takesNumbers = text.length() > keyword.length();
            for (char sign = ' '; sign <= '~'; sign++) {
                char goesOn = takesNumbers ? ' ' : ';';
                malformed(keyword + sign, keyword.length() + (sign == goesOn ? 1 : 0));
                boolean isDigit = sign >= '0' && sign <= '9';
                if (takesNumbers && !isDigit) {
                    malformed(keyword + " " + sign, keyword.length() + 1);
                    malformed("dev 3;" + keyword + " " + sign + "1", keyword.length() + 7);
                }
            }
        }
    }

    static void everySignBehindANumber() {
        sentence("50: the index of its first character that cannot continue any valid text");
        for (char sign = ' '; sign <= '~'; sign++) {
            boolean isDigit = sign >= '0' && sign <= '9';
            int further = sign == ';' ? 1 : 0;
            malformed("story 13" + sign, 8 + further);
            malformed("dev 1" + sign, 5 + further);
            malformed("assign 1 2" + sign, 10 + further);
            malformed("points 1 13" + sign, 11 + further);
            malformed("points 11" + sign, sign == ' ' ? 10 : 9);
            malformed("block 1" + sign, isDigit || sign == ' ' ? 8 : 7);
            malformed("assign 1" + sign, isDigit || sign == ' ' ? 9 : 8);
            malformed("assign 1 " + sign, isDigit ? -1 : 9);
            malformed("plan 1" + sign, isDigit ? -1 : 6 + further);
        }
    }

    static void noTextWasMalformed() {
        sentence("50: Throws NoSuchElementException if no text was malformed so far");
        refuses("no text", FOUND, SprintBoard::new, SprintBoard::errorPosition);
        refuses("not executed", FOUND, () -> after(SprintBoard::new, x -> type(x, "x")), SprintBoard::errorPosition);
        refuses("a good text", FOUND, () -> after(SprintBoard::new, x -> run(x, "dev 1")), SprintBoard::errorPosition);
        refuses("a failing one", FOUND, () -> after(SprintBoard::new, x -> outcome(() -> run(x, "end"))),
            SprintBoard::errorPosition);
    }

    static void lastMalformedText() {
        sentence("50: Returns the error position of the last malformed text");
        SprintBoard x = new SprintBoard();
        outcome(() -> run(x, "end;"));
        is("at its end", 4, x.errorPosition());
        outcome(() -> run(x, "x"));
        is("at its beginning", 0, x.errorPosition());
        outcome(() -> run(x, "story 1;x"));
        run(x, "story 1");
        outcome(() -> run(x, "end"));
        is("before a good and a failing one", 8, x.errorPosition());
        is("asked again", 8, x.errorPosition());
        outcome(x::execute);
        is("of an empty one", 0, x.errorPosition());
    }

    static void noCommandFailed() {
        sentence("51: Throws NoSuchElementException if no command failed so far");
        refuses("no text", FOUND, SprintBoard::new, SprintBoard::failedCommand);
        refuses("not executed", FOUND, () -> after(SprintBoard::new, x -> type(x, "end")), SprintBoard::failedCommand);
        refuses("a good text", FOUND, () -> after(SprintBoard::new, x -> run(x, "dev 1")), SprintBoard::failedCommand);
        refuses("a malformed one", FOUND, () -> after(SprintBoard::new, x -> outcome(() -> run(x, "end;x"))),
            SprintBoard::failedCommand);
        refuses("a method that failed", FOUND, () -> after(SprintBoard::new, x -> outcome(x::endSprint)),
            SprintBoard::failedCommand);
    }

    static void lastTextThatHadOne() {
        sentence("51: Returns the index of the command that failed in the last text that had one");
        SprintBoard x = new SprintBoard();
        outcome(() -> run(x, "dev 1;dev 1;end"));
        is("the third", 2, x.failedCommand());
        run(x, "dev 1");
        outcome(() -> run(x, "end;"));
        is("before a good and a malformed one", 2, x.failedCommand());
        outcome(() -> run(x, "end;end"));
        is("the first", 0, x.failedCommand());
    }

    private static boolean beginsAKeyword(String text) {
        for (String keyword : KEYWORDS) {
            if (keyword.startsWith(text)) {
                return true;
            }
        }
        return false;
    }

    private static SprintBoard busyWithoutText() {
        SprintBoard x = busy();
        outcome(x::execute);
        return x;
    }

    private static SprintBoard fullWithATeam() {
        SprintBoard x = developers(1, 2, 3, 4);
        for (int story = 0; story < 16; story++) {
            x.addStory(8);
        }
        return x;
    }

    /** The text is malformed at this position; with -1 it is not. */
    private static void malformed(String text, int position) {
        SprintBoard x = new SprintBoard();
        Object answer = outcome(() -> run(x, text));
        is("'" + text + "' is malformed", position >= 0, answer == ARGUMENT);
        is("'" + text + "' has its error", position >= 0 ? (Object) position : FOUND, outcome(x::errorPosition));
    }

    /** The text is refused and changes nothing but what is kept of it: the error position, or the failed command. */
    private static void refusesText(String what, Class<? extends RuntimeException> due, Supplier<SprintBoard> made,
            String text, int kept) {
        SprintBoard x = made.get();
        SprintBoard untouched = made.get();
        fails(what, due, () -> run(x, text));
        boolean malformed = due == ARGUMENT;
        is(what + ", error position", malformed ? (Object) kept : outcome(untouched::errorPosition),
            outcome(x::errorPosition));
        is(what + ", failed command", malformed ? outcome(untouched::failedCommand) : (Object) kept,
            outcome(x::failedCommand));
        is(what + ", state", state(untouched), state(x));
        is(what + ", line", line(untouched), line(x));
        is(what + ", buffer", 1, outcome(() -> x.type('d')));
        is(what + ", what can be undone", undone(untouched), undone(x));
    }

    private static void likeTheMethod(String command, Function<SprintBoard, Object> method) {
        likeTheMethod(command, SprintBoard::new, method);
        likeTheMethod(command, TextBoundaryTest::busyWithoutText, method);
        likeTheMethod(command, () -> after(TextBoundaryTest::busyWithoutText, SprintBoard::endSprint), method);
        likeTheMethod(command, TextBoundaryTest::fullWithATeam, method);
    }

    private static void likeTheMethod(String command, Supplier<SprintBoard> made,
            Function<SprintBoard, Object> method) {
        SprintBoard told = made.get();
        SprintBoard called = made.get();
        Object answer = outcome(() -> method.apply(called));
        is(command + " is executed", answer instanceof Class ? STATE : (Object) 1, outcome(() -> run(told, command)));
        is(command + " does the same", state(called), state(told));
        is(command + " can be undone like it", undone(called), undone(told));
    }
}

/** Counts what is not as due, prints it, and ends the test with exit code 1 if there was any. */
final class Checks {
    private int made;
    private int wrong;

    void same(String what, Object due, Object answer) {
        made++;
        if (!due.equals(answer)) {
            wrong++;
            System.out.println(what + ": answered " + answer + ", due is " + due);
        }
    }

    void end() {
        System.out.println(made + " checks, " + wrong + " wrong");
        if (made == 0 || wrong > 0) {
            System.exit(1);
        }
    }
}

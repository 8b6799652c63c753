/** Counts checks, and prints those that went wrong. */
final class Checks {
    private static final int PRINTED_MOST = 40;

    private int checked = 0;
    private int wrong = 0;
    private String about = "";

    /** Names what the checks from here on are about. */
    void about(String what) {
        about = what;
    }

    void due(String what, Object got, Object want) {
        checked++;
        if (got.equals(want)) {
            return;
        }
        wrong++;
        if (wrong <= PRINTED_MOST) {
            System.out.println("[" + about + "] " + what + " answered " + got + ", due is " + want);
        }
    }

    /** Ends the program with exit code 1 if a check went wrong. */
    void end() {
        System.out.println(checked + " checks, " + wrong + " wrong");
        if (wrong != 0 || checked == 0) {
            System.exit(1);
        }
    }
}

/** Counts the answers that a test has looked at, and tells those that are not as due. */
final class Report {
    private static int looked;
    private static int wrong;

    private Report() {
    }

    static void due(String name, String call, String got, String due) {
        looked++;
        if (!got.equals(due)) {
            wrong++;
            System.out.println(name + ": " + call + " answered " + got + ", due is " + due);
        }
    }

    static void due(String name, String call, long got, long due) {
        due(name, call, Long.toString(got), Long.toString(due));
    }

    /** Ends the program with exit code 1 if an answer was wrong, or none was looked at. */
    static void end() {
        System.out.println(looked + " answers looked at, " + wrong + " are not as due");
        if (wrong != 0 || looked == 0) {
            System.exit(1);
        }
    }
}

/** Counts the answers that are not as due; a test ends with exit code 1 if there was one. */
final class Due {
    private static String test = "";
    private static int asked;
    private static int wrong;

    private Due() {
    }

    /** What is asked from here on is told as part of this test. */
    static void begin(String name) {
        test = name + ": ";
    }

    static void due(String call, long got, long want) {
        asked++;
        if (got != want) {
            wrong++;
            System.out.println(test + call + " answered " + got + ", due is " + want);
        }
    }

    static void holds(String what, boolean is) {
        due(what, is ? 1 : 0, 1);
    }

    /** Two texts of lines are the same; else the first line that is not is told. */
    static void same(String what, String got, String want) {
        String[] is = got.split("\n");
        String[] due = want.split("\n");
        int i = 0;
        while (i < is.length && i < due.length && is[i].equals(due[i])) {
            i++;
        }
        holds(what + ": " + (i < is.length ? is[i] : "no more") + ", due is " + (i < due.length ? due[i] : "no more"),
            got.equals(want));
    }

    static void end() {
        System.out.println(asked + " answers, " + wrong + " not as due");
        if (wrong != 0 || asked == 0) {
            System.exit(1);
        }
    }
}

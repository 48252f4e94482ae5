/** Compares answers with those that are due, and counts the wrong ones. */
final class Due {
    private int wrong;
    private int asked;

    void is(String call, long got, long want) {
        asked++;
        if (got != want) {
            wrong++;
            System.out.println(call + " answered " + got + ", due is " + want);
        }
    }

    void holds(String what, boolean does) {
        asked++;
        if (!does) {
            wrong++;
            System.out.println("does not hold: " + what);
        }
    }

    /** Ends the program, with 1 if an answer was wrong or none was asked for. */
    void end() {
        System.out.println(asked + " asked, " + wrong + " wrong");
        System.exit(wrong == 0 && asked > 0 ? 0 : 1);
    }
}

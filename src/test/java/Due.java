/** Compares answers with those that are due, and ends a test with exit code 1 if one is not. */
final class Due {
    private final String test;
    private String part = "";
    private int looked;
    private int wrong;

    Due(String test) {
        this.test = test;
    }

    void part(String name) {
        part = name;
    }

    void is(String call, long got, long want) {
        looked++;
        if (got != want) {
            wrong++;
            System.out.println(test + ", " + part + ": " + call + " answered " + got + ", due is " + want);
        }
    }

    void end() {
        if (wrong != 0 || looked == 0) {
            System.out.println(test + ": " + wrong + " of " + looked + " answers are not as due");
            System.exit(1);
        }
        System.out.println(test + ": all " + looked + " answers are as due");
    }
}

/** Counts the answers of a test that are not as due, and tells them. */
final class Check {
    private final String name;
    private int right;
    private int wrong;
    private String part = "";

    Check(String name) {
        this.name = name;
    }

    /** Names the part that the next answers belong to. */
    void part(String part) {
        this.part = part;
    }

    void due(String call, long got, long want) {
        if (got == want) {
            right++;
            return;
        }
        wrong++;
        if (wrong <= 40) {
            System.out.println(name + ", " + part + ": " + call + " answered " + got + ", due is " + want);
        }
    }

    void holds(String what, boolean holds) {
        due(what, holds ? 1 : 0, 1);
    }

    boolean isClean() {
        return wrong == 0;
    }

    /** How many answers were looked at so far. */
    int answers() {
        return right + wrong;
    }

    /** Ends the test with exit code 1 if an answer was not as due. */
    void end() {
        System.out.println(name + ": " + right + " answers as due, " + wrong + " not");
        if (wrong != 0) {
            System.exit(1);
        }
    }
}

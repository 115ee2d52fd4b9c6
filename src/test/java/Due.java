/** Counts and prints the answers that are not the ones that are due. */
final class Due {
    private final String name;
    private String part = "";
    private int asked = 0;
    private int wrong = 0;

    Due(String name) {
        this.name = name;
    }

    /** What the answers from here on are about. */
    void part(String text) {
        part = text;
    }

    void is(String call, long got, long want) {
        asked++;
        if (got != want) {
            wrong++;
            System.out.println(name + ", " + part + ": " + call + " answered " + got + ", due is " + want);
        }
    }

    void holds(String what, boolean so) {
        is(what, so ? 1 : 0, 1);
    }

    boolean isClean() {
        return wrong == 0;
    }

    void end() {
        System.out.println(name + ": " + asked + " answers, " + wrong + " not as due");
        if (wrong != 0) {
            System.exit(1);
        }
    }
}

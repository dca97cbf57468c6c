/** Counts and tells the calls whose answer is not the one that is due. */
final class Due {
    private final String name;
    private String part = "";
    private int asked = 0;
    private int wrong = 0;

    Due(String name) {
        this.name = name;
    }

    void part(String part) {
        this.part = part;
    }

    void is(String call, long got, long want) {
        asked++;
        if (got == want) return;
        wrong++;
        System.out.println(name + ", " + part + ": " + call + " answered " + got + ", due is " + want);
    }

    /** Ends the program, with 1 if an answer was wrong. */
    void end() {
        System.out.println(asked + " answers, " + wrong + " of them not as due");
        if (wrong != 0) System.exit(1);
    }
}

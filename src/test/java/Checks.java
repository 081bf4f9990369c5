/** Counts the checks of one test program and tells each one that is wrong. */
final class Checks {
    private final String program;
    private String sentence = "";
    private int made = 0;
    private int wrong = 0;

    Checks(String program) {
        this.program = program;
    }

    /** The checks from here on look at this sentence, which stands in the document under this head. */
    void sentence(String head, String words) {
        sentence = head + " \"" + words + "\": ";
    }

    void due(String call, long got, long want) {
        made++;
        if (got != want) {
            wrong++;
            System.out.println(program + ": " + sentence + call + " answered " + got + ", due is " + want);
        }
    }

    void same(String claim, String got, String want) {
        made++;
        if (!got.equals(want)) {
            wrong++;
            System.out.println(program + ": " + sentence + claim + "\n  answered " + got + "\n  due is   " + want);
        }
    }

    void holds(String claim, boolean holds) {
        due(claim, holds ? 1 : 0, 1);
    }

    boolean anyWrong() {
        return wrong > 0;
    }

    void finish() {
        System.out.println(program + ": " + (made - wrong) + " of " + made + " checks are as due");
        if (wrong > 0 || made == 0) {
            System.exit(1);
        }
    }
}

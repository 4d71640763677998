/** Counts and prints the answers that are not the ones that are due. */
final class Due {
    private final String test;
    private String part = "";
    private int wrong;
    private int asked;

    Due(String test) {
        this.test = test;
    }

    /** What is asked from here on belongs to these words of the document. */
    void sentence(String words) {
        part = "\"" + words + "\": ";
    }

    void is(String call, long got, long want) {
        asked++;
        if (got != want) {
            tell(call + " answered " + got + ", due is " + want);
        }
    }

    void same(String what, String got, String want) {
        asked++;
        if (!got.equals(want)) {
            tell(what + " is " + got + ", due is " + want);
        }
    }

    void holds(String what, boolean so) {
        asked++;
        if (!so) {
            tell("not so: " + what);
        }
    }

    private void tell(String what) {
        wrong++;
        System.out.println(test + ": " + part + what);
    }

    int wrong() {
        return wrong;
    }

    int asked() {
        return asked;
    }

    void end() {
        System.out.println(test + ": " + asked + " asked, " + wrong + " wrong");
        if (wrong != 0 || asked == 0) {
            System.exit(1);
        }
    }
}

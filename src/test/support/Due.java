/** Compares answers with those that are due, tells every difference, and ends with exit code 1 if there was one. */
final class Due {
    private final String name;
    private String sentence = "";
    private int sentences = 0;
    private int ahead = 0;
    private int compared = 0;
    private int wrong = 0;

    Due(String name) {
        this.name = name;
    }

    /** All that is compared from here on is about this sentence of a promise (0: of the sections ahead of them). */
    void about(int promise, String told) {
        somethingWasCompared();
        sentence = " promise " + promise + " '" + told + "':";
        sentences++;
        if (!Document.says(promise, told)) {
            fail("the document does not say so");
        }
        ahead = compared;
    }

    private void somethingWasCompared() {
        if (sentences > 0 && compared == ahead) {
            fail("nothing was compared");
        }
    }

    void is(String what, long want, long got) {
        compared++;
        if (want != got) {
            fail(what + " answered " + got + ", due is " + want);
        }
    }

    void holds(String what, boolean held) {
        compared++;
        if (!held) {
            fail(what + " does not hold");
        }
    }

    private void fail(String what) {
        wrong++;
        System.out.println(name + ":" + sentence + " " + what);
    }

    boolean anyWrong() {
        return wrong > 0;
    }

    void end() {
        somethingWasCompared();
        String about = sentences > 0 ? sentences + " sentences, " : "";
        System.out.println(name + ": " + about + compared + " compared, " + wrong + " wrong");
        if (wrong > 0) {
            System.exit(1);
        }
    }
}

/** Compares answers with those that are due, tells every difference, and ends with exit code 1 if there was one. */
final class Due {
    private final String name;
    private int compared = 0;
    private int wrong = 0;

    Due(String name) {
        this.name = name;
    }

    void is(String what, long want, long got) {
        compared++;
        if (want != got) {
            wrong++;
            System.out.println(name + ": " + what + " answered " + got + ", due is " + want);
        }
    }

    void holds(String what, boolean held) {
        compared++;
        if (!held) {
            wrong++;
            System.out.println(name + ": " + what + " does not hold");
        }
    }

    boolean anyWrong() {
        return wrong > 0;
    }

    void end() {
        System.out.println(name + ": " + compared + " compared, " + wrong + " wrong");
        if (wrong > 0) {
            System.exit(1);
        }
    }
}

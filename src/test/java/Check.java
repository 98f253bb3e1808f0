/** Counts what holds and what does not, and ends a test with the exit code that is due. */
final class Check {
    private final String name;
    private int held = 0;
    private int broken = 0;

    Check(String name) {
        this.name = name;
    }

    void that(String what, boolean holds) {
        if (holds) {
            held++;
        } else {
            broken++;
            System.out.println(name + ": " + what);
        }
    }

    void due(String what, long got, long want) {
        that(what + " answered " + got + ", due is " + want, got == want);
    }

    int broken() {
        return broken;
    }

    void finish() {
        System.out.println(name + ": " + held + " hold, " + broken + " do not");
        if (broken != 0) {
            System.exit(1);
        }
    }
}

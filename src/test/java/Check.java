/** Counts the answers that are not as due and prints each. */
final class Check {
    private final String name;
    private int wrong = 0;

    Check(String name) {
        this.name = name;
    }

    void same(String call, long got, long due) {
        if (got != due) {
            fail(call + " answered " + got + ", due is " + due);
        }
    }

    void same(String call, boolean got, boolean due) {
        if (got != due) {
            fail(call + " answered " + got + ", due is " + due);
        }
    }

    void same(String call, String got, String due) {
        if (!got.equals(due)) {
            fail(call + " answered " + got + ", due is " + due);
        }
    }

    void fail(String text) {
        wrong++;
        System.out.println(name + ": " + text);
    }

    boolean failed() {
        return wrong != 0;
    }

    void end() {
        System.out.println(wrong == 0 ? name + ": all answers are as due" : name + ": " + wrong + " not as due");
        if (wrong != 0) {
            System.exit(1);
        }
    }
}

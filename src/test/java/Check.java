/** Counts the answers that are not as due and prints each. */
final class Check {
    private final String name;
    private String sentence = "";
    private int sentences = 0;
    private int compared = 0;
    private int wrong = 0;

    Check(String name) {
        this.name = name;
    }

    /** The test of one sentence of the document; whatever of it is not as due is printed behind that sentence. */
    void sentence(String text, Runnable test) {
        sentence = text + ": ";
        sentences++;
        int before = compared;
        try {
            test.run();
        } catch (RuntimeException e) {
            fail("stopped by " + e);
        }
        if (compared == before) {
            fail("nothing was compared");
        }
        sentence = "";
    }

    void same(String call, long got, long due) {
        compared++;
        if (got != due) {
            fail(call + " answered " + got + ", due is " + due);
        }
    }

    void same(String call, boolean got, boolean due) {
        compared++;
        if (got != due) {
            fail(call + " answered " + got + ", due is " + due);
        }
    }

    void same(String call, String got, String due) {
        compared++;
        if (!got.equals(due)) {
            fail(call + " answered " + got + ", due is " + due);
        }
    }

    void fail(String text) {
        wrong++;
        System.out.println(name + ": " + sentence + text);
    }

    boolean failed() {
        return wrong != 0;
    }

    void end() {
        String of = sentences == 0 ? "" : " (" + sentences + " sentences)";
        System.out.println(name + ": " + (wrong == 0 ? "all answers are as due" : wrong + " not as due") + of);
        if (wrong != 0) {
            System.exit(1);
        }
    }
}

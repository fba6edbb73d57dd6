/** Compares answers with what is due, prints those that differ, and ends the test by them. */
final class Check {
    private int wrong = 0;
    private String sentence = "";

    /** The document's words that the checks from here on are about. */
    void sentence(String words) {
        sentence = "[" + words + "] ";
    }

    /** What a test did not expect to be thrown is a wrong answer, and the next test goes on. */
    void run(Runnable test) {
        try {
            test.run();
        } catch (RuntimeException e) {
            report("threw " + e);
        }
    }

    void due(String call, long want, long got) {
        if (got != want) {
            report(call + " answered " + got + ", due is " + want);
        }
    }

    void due(String call, boolean want, boolean got) {
        if (got != want) {
            report(call + " answered " + got + ", due is " + want);
        }
    }

    void due(String call, String want, String got) {
        if (!got.equals(want)) {
            report(call + " answered\n" + got + "\ndue is\n" + want);
        }
    }

    /** No such transaction, triple, graph or version. */
    void unknown(String call, Runnable run) {
        thrown(call, IllegalArgumentException.class, run);
    }

    /** Ended, waits, failed, a reader, or no room. */
    void refused(String call, Runnable run) {
        thrown(call, IllegalStateException.class, run);
    }

    private void thrown(String call, Class<?> want, Runnable run) {
        Class<?> got = null;
        try {
            run.run();
        } catch (RuntimeException e) {
            got = e.getClass();
        }
        if (got != want) {
            report(call + " threw " + got + ", due is " + want);
        }
    }

    private void report(String line) {
        wrong++;
        if (wrong <= 50) {
            System.out.println(sentence + line);
        }
    }

    int wrongSoFar() {
        return wrong;
    }

    void end() {
        if (wrong > 0) {
            System.out.println(wrong + " answers are not as due");
            System.exit(1);
        }
    }
}

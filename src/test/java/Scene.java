/** Objects as the tests want them, and all that can be asked of one, as a text to compare. */
final class Scene {
    /** No triple, graph, version or transaction: some would fit after a wrap-around or a cut. */
    static final int[] NEVER = {
        Integer.MIN_VALUE, Integer.MIN_VALUE + 1, -200, -1, 256, 65536, 85899346, 1 << 30, Integer.MAX_VALUE};

    private Scene() {
    }

    static VersionTrans withWriters(int count) {
        VersionTrans x = new VersionTrans();
        for (int i = 0; i < count; i++) {
            x.begin();
        }
        return x;
    }

    /** A new writer writes one triple and commits. */
    static int write(VersionTrans x, int triple, boolean there) {
        int writer = x.begin();
        x.put(writer, triple, there);
        return x.commit(writer);
    }

    /**
     * Latest is 2, least 0 (a reader's). 0 committed, 1 aborted, 2 an open writer that holds 10 and
     * noted graphs 0 and 3, 3 waits for it, 4 has failed and holds 12, 5 a reader, 6 committed,
     * 7 aborted by a ring with 2, 8 an ended reader. Version 1 is pinned twice.
     */
    static VersionTrans withEveryState() {
        VersionTrans x = withWriters(5);
        x.look(0);
        x.put(0, 1, true);
        x.put(0, 60, true);
        x.put(4, 12, true);
        x.commit(0);
        x.put(4, 1, false);
        x.abort(1);
        x.pin(1);
        x.pin(1);
        write(x, 61, true);
        x.begin();
        x.put(2, 10, true);
        x.put(7, 14, true);
        x.put(2, 14, false);
        x.put(7, 10, true);
        x.note(2, 0);
        x.note(2, 3);
        x.put(3, 13, true);
        x.put(3, 10, false);
        x.look(2);
        x.commit(8);
        return x;
    }

    /**
     * Every answer that does not change the object (pin and unpin take each other back), of these
     * triples: few enough to stay within the calls that the document promises.
     */
    static String picture(VersionTrans x, int... triples) {
        StringBuilder text = new StringBuilder();
        int latest = x.latest();
        int least = x.least();
        text.append("latest ").append(latest).append(" least ").append(least).append(" rows ").append(x.rows());
        for (int version = least; version <= latest; version++) {
            text.append("\nversion ").append(version).append(" pins ").append(x.pin(version) - 1).append(": ");
            x.unpin(version);
            for (int triple : triples) {
                text.append(x.told(version, triple) ? 't' : 'f');
            }
        }
        for (int number = 0; number < 60 && isKnown(x, number); number++) {
            int state = x.state(number);
            text.append("\ntransaction ").append(number).append(" state ").append(state);
            text.append(" waits ").append(x.waits(number)).append(": ");
            for (int i = 0; i < triples.length && state < 3; i++) {
                text.append(x.read(number, triples[i]) ? 't' : 'f');
            }
        }
        text.append("\nring");
        for (int i = 0; i < 5; i++) {
            text.append(' ').append(x.ring(i));
        }
        text.append("\nconflicts");
        for (int triple : triples) {
            text.append(' ').append(x.conflicts(0, triple));
        }
        for (int graph = 0; graph < 4; graph++) {
            text.append(' ').append(x.conflicts(1, graph));
        }
        return text.toString();
    }

    private static boolean isKnown(VersionTrans x, int number) {
        try {
            x.state(number);
            return true;
        } catch (IllegalArgumentException e) {
            return false;
        }
    }
}

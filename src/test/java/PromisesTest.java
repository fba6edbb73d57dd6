/** For each promise of the document: ordinary inputs, the edges that it names, and wrong inputs. */
public final class PromisesTest {
    private static final int[] WRONG = {Integer.MIN_VALUE, -1, Integer.MAX_VALUE};
    private static final Check check = new Check();

    public static void main(String[] args) {
        promise1NewObject();
        promise2Begin();
        promise3Look();
        promise4Put();
        promise4PutThatWaits();
        promise4PutThatFails();
        promise4PutIntoARing();
        promise4PutThrows();
        promise5Note();
        promise6Read();
        promise7Told();
        promise8CommitMakesVersions();
        promise8CommitRefuses();
        promise9Abort();
        promise9AbortFreesThoseThatWait();
        promise10Pin();
        promise11Unpin();
        promise12Free();
        promise12FreeKeepsWhatIsSeen();
        promise13Rows();
        promise14Latest();
        promise15Least();
        promise16State();
        promise17Waits();
        promise17WaitsInOrder();
        promise18Ring();
        promise19Conflicts();
        check.end();
    }

    /** A new writer writes one triple and commits. */
    private static int write(VersionTrans x, int triple, boolean there) {
        int writer = x.begin();
        x.put(writer, triple, there);
        return x.commit(writer);
    }

    private static VersionTrans withWriters(int count) {
        VersionTrans x = new VersionTrans();
        for (int i = 0; i < count; i++) {
            x.begin();
        }
        return x;
    }

    private static void promise1NewObject() {
        VersionTrans x = new VersionTrans();
        check.due("1 latest", 0, x.latest());
        check.due("1 least", 0, x.least());
        check.due("1 rows", 0, x.rows());
        check.due("1 ring", -1, x.ring(0));
        check.due("1 free", 0, x.free());
        for (int triple = 0; triple < 200; triple++) {
            check.due("1 told", false, x.told(0, triple));
            check.due("1 conflicts", 0, x.conflicts(0, triple));
        }
        for (int graph = 0; graph < 4; graph++) {
            check.due("1 conflicts", 0, x.conflicts(1, graph));
        }
        check.unknown("1 state", () -> x.state(0));
        check.unknown("1 told 1", () -> x.told(1, 0));

        VersionTrans other = new VersionTrans();
        write(other, 3, true);
        check.due("1 objects are apart", 0, x.latest());
    }

    private static void promise2Begin() {
        VersionTrans x = new VersionTrans();
        check.due("2 first", 0, x.begin());
        check.due("2 second", 1, x.begin());
        x.put(0, 9, true);
        x.commit(0);
        check.due("2 numbers of ended ones are not used again", 2, x.begin());
        check.due("2 sees the latest", true, x.read(2, 9));
        check.due("2 the earlier one does not", false, x.read(1, 9));
        for (int i = 3; i < 60; i++) {
            check.due("2 number", i, x.begin());
        }
        check.refused("2 no room", x::begin);
        x.abort(1);
        check.refused("2 ended ones count", x::begin);
        check.unknown("2 none was made", () -> x.state(60));
    }

    private static void promise3Look() {
        VersionTrans x = new VersionTrans();
        check.due("3 version 0", 0, x.look(0));
        write(x, 7, true);
        write(x, 7, false);
        check.due("3 between the kept ones", 3, x.look(1));
        check.due("3 latest", 4, x.look(2));
        check.due("3 reads 0", false, x.read(0, 7));
        check.due("3 reads 1", true, x.read(3, 7));
        check.due("3 reads 2", false, x.read(4, 7));
        check.unknown("3 above", () -> x.look(3));
        for (int version : WRONG) {
            check.unknown("3 wrong", () -> x.look(version));
        }
        x.commit(0);
        check.unknown("3 below the least kept", () -> x.look(0));
        check.due("3 the least kept", 5, x.look(1));
        for (int i = 6; i < 60; i++) {
            x.look(2);
        }
        check.refused("3 no room", () -> x.look(2));
        check.unknown("3 no version comes before no room", () -> x.look(0));
        check.unknown("3 none was made", () -> x.state(60));
    }

    private static void promise4Put() {
        VersionTrans x = withWriters(1);
        check.due("4 first triple", 1, x.put(0, 0, true));
        check.due("4 last triple", 1, x.put(0, 199, true));
        check.due("4 again", 1, x.put(0, 0, true));
        check.due("4 otherwise", 1, x.put(0, 199, false));
        check.due("4 reads", false, x.read(0, 199));
        check.due("4 no row before the commit", 0, x.rows());
        check.due("4 commit", 1, x.commit(0));
        check.due("4 the earlier write is no more", 1, x.rows());
        x.begin();
        check.due("4 there already", 1, x.put(1, 0, true));
        check.due("4 not there already", 1, x.put(1, 5, false));
        check.due("4 changes nothing", 1, x.commit(1));
    }

    private static void promise4PutThatWaits() {
        VersionTrans x = withWriters(3);
        x.put(0, 5, true);
        check.due("4 waits", 0, x.put(1, 5, false));
        check.due("4 waits also with the same write", 0, x.put(2, 5, true));
        check.refused("4 one that waits", () -> x.put(1, 6, true));
        check.due("4 still waits for the same", 0, x.waits(1));
        x.put(0, 5, false);
        check.due("4 the holder changes nothing", 0, x.commit(0));
        check.due("4 the first one goes on", 0, x.state(1));
        check.due("4 with its write", false, x.read(1, 5));
        check.due("4 the second waits for it", 1, x.waits(2));
        x.abort(1);
        check.due("4 the write of the second", true, x.read(2, 5));
        check.due("4 is its own", 1, x.commit(2));
    }

    private static void promise4PutThatFails() {
        VersionTrans x = withWriters(4);
        x.put(1, 8, true);
        write(x, 5, true);
        check.due("4 fails", -1, x.put(1, 5, true));
        check.due("4 state", 2, x.state(1));
        check.refused("4 failed", () -> x.put(1, 6, true));
        check.due("4 waits for one that failed", 0, x.put(2, 8, true));
        check.due("4 its holder", 1, x.waits(2));
        check.due("4 row goes before holder", 1, x.put(3, 9, true));
        int later = x.begin();
        check.due("4 a later one may", 1, x.put(later, 5, false));
        check.due("4 fails though another holds it", -1, x.put(3, 5, true));
        check.due("4 commit of the failed one", 0, x.commit(1));
        check.due("4 then the other one holds it", 0, x.state(2));
        check.due("4 reads", true, x.read(2, 8));
    }

    private static void promise4PutIntoARing() {
        VersionTrans x = withWriters(4);
        x.put(0, 10, true);
        x.put(1, 11, true);
        x.put(2, 12, true);
        check.due("4 outside the ring", 0, x.put(3, 11, true));
        check.due("4 one", 0, x.put(1, 12, true));
        check.due("4 two", 0, x.put(2, 10, true));
        check.due("4 the greatest is another: waits on", 0, x.put(0, 11, true));
        check.due("4 aborted", 4, x.state(2));
        check.due("4 not the greatest in the ring", 1, x.state(3));
        check.due("4 the one behind it goes on", 0, x.state(1));
        check.due("4 first of those that wait", 1, x.waits(0));
        check.due("4 holds it now", true, x.read(1, 12));

        VersionTrans y = withWriters(2);
        y.put(0, 10, true);
        y.put(1, 11, true);
        y.put(1, 10, true);
        check.due("4 done by the abort of the other", 1, y.put(0, 11, false));
        check.due("4 other", 4, y.state(1));
        check.due("4 own write", false, y.read(0, 11));

        VersionTrans z = withWriters(2);
        z.put(0, 10, true);
        z.put(1, 11, true);
        z.put(0, 11, true);
        check.due("4 aborted itself", -2, z.put(1, 10, true));
        check.due("4 the other goes on", 0, z.state(0));
        check.due("4 own", 2, z.abort(0));
    }

    private static void promise4PutThrows() {
        VersionTrans x = withWriters(2);
        int reader = x.look(0);
        for (int wrong : WRONG) {
            check.unknown("4 transaction", () -> x.put(wrong, 0, true));
            check.unknown("4 triple", () -> x.put(0, wrong, true));
            check.unknown("4 triple before reader", () -> x.put(reader, wrong, true));
        }
        check.unknown("4 transaction 3", () -> x.put(3, 0, true));
        check.unknown("4 triple 200", () -> x.put(0, 200, true));
        check.refused("4 reader", () -> x.put(reader, 0, true));
        x.commit(0);
        check.refused("4 committed", () -> x.put(0, 0, true));
        x.abort(1);
        check.refused("4 aborted", () -> x.put(1, 0, true));
        check.unknown("4 triple before ended", () -> x.put(1, 200, true));
    }

    private static void promise5Note() {
        VersionTrans x = withWriters(4);
        int reader = x.look(0);
        check.due("5 one", 1, x.note(0, 3));
        check.due("5 again", 1, x.note(0, 3));
        check.due("5 two", 2, x.note(0, 0));
        check.due("5 another one's", 1, x.note(1, 2));
        for (int wrong : WRONG) {
            check.unknown("5 graph", () -> x.note(0, wrong));
            check.unknown("5 transaction", () -> x.note(wrong, 0));
        }
        check.unknown("5 graph 4", () -> x.note(0, 4));
        check.unknown("5 graph before reader", () -> x.note(reader, 4));
        check.refused("5 reader", () -> x.note(reader, 0));
        check.due("5 nothing was changed", 3, x.note(0, 1));
        check.due("5 all", 4, x.note(0, 2));
        x.put(0, 60, true);
        x.put(2, 60, true);
        check.refused("5 waits", () -> x.note(2, 0));
        x.put(1, 0, true);
        check.due("5 another graph does not matter", 1, x.commit(1));
        check.due("5 changed", 0, x.commit(0));
        check.refused("5 ended", () -> x.note(0, 0));
        check.due("5 fails", -1, x.put(3, 0, true));
        check.refused("5 failed", () -> x.note(3, 0));
        check.due("5 after another one's end", 1, x.note(2, 0));

        for (int triple : new int[] {49, 50, 99, 100, 149, 150, 199}) {
            graphOfTriple(triple);
        }
    }

    private static void graphOfTriple(int triple) {
        VersionTrans x = withWriters(4);
        for (int graph = 0; graph < 4; graph++) {
            x.note(graph, graph);
        }
        write(x, triple, true);
        for (int graph = 0; graph < 4; graph++) {
            x.commit(graph);
            check.due("5 graph of " + triple, graph == triple / 50 ? 4 : 3, x.state(graph));
        }
    }

    private static void promise6Read() {
        VersionTrans x = new VersionTrans();
        write(x, 1, true);
        int writer = x.begin();
        int reader = x.look(1);
        check.due("6 version", true, x.read(writer, 1));
        x.put(writer, 1, false);
        x.put(writer, 2, true);
        check.due("6 own not there", false, x.read(writer, 1));
        check.due("6 own there", true, x.read(writer, 2));
        check.due("6 reader", true, x.read(reader, 1));
        check.due("6 not another one's", false, x.read(reader, 2));
        int other = x.begin();
        x.put(other, 3, true);
        x.put(other, 2, true);
        check.due("6 waits: own", true, x.read(other, 3));
        check.due("6 waits: not yet own", false, x.read(other, 2));
        x.commit(writer);
        check.due("6 failed", 2, x.state(other));
        check.due("6 failed: own", true, x.read(other, 3));
        check.due("6 failed: version", true, x.read(other, 1));
        check.due("6 failed: never own", false, x.read(other, 2));
        check.refused("6 committed", () -> x.read(writer, 1));
        x.abort(other);
        check.refused("6 aborted", () -> x.read(other, 1));
        for (int wrong : WRONG) {
            check.unknown("6 transaction", () -> x.read(wrong, 1));
            check.unknown("6 triple", () -> x.read(reader, wrong));
        }
        check.unknown("6 triple 200", () -> x.read(reader, 200));
        check.unknown("6 triple before ended", () -> x.read(other, 200));
        check.due("6 last triple", false, x.read(reader, 199));
    }

    private static void promise7Told() {
        VersionTrans x = new VersionTrans();
        x.pin(0);
        write(x, 199, true);
        write(x, 0, true);
        write(x, 199, false);
        check.due("7 v0", false, x.told(0, 199));
        check.due("7 v1", true, x.told(1, 199));
        check.due("7 v2, by the row of v1", true, x.told(2, 199));
        check.due("7 v3", false, x.told(3, 199));
        check.due("7 v1 of 0", false, x.told(1, 0));
        check.due("7 v3 of 0", true, x.told(3, 0));
        check.unknown("7 v4", () -> x.told(4, 0));
        for (int wrong : WRONG) {
            check.unknown("7 version", () -> x.told(wrong, 0));
            check.unknown("7 triple", () -> x.told(0, wrong));
        }
        check.unknown("7 triple 200", () -> x.told(0, 200));
        x.pin(2);
        x.unpin(0);
        check.unknown("7 below the least", () -> x.told(1, 199));
        check.due("7 the least", true, x.told(2, 199));
    }

    private static void promise8CommitMakesVersions() {
        VersionTrans x = withWriters(3);
        int reader = x.look(0);
        x.put(0, 1, true);
        x.put(0, 2, true);
        x.put(0, 3, false);
        x.put(1, 4, true);
        check.due("8 next", 1, x.commit(0));
        check.due("8 rows of the changes alone", 2, x.rows());
        check.due("8 state", 3, x.state(0));
        check.due("8 the other one's", 2, x.commit(1));
        check.due("8 whole", true, x.told(2, 1) && x.told(2, 2) && x.told(2, 4));
        check.due("8 version 1 has not the later one", false, x.told(1, 4));
        x.put(2, 9, false);
        check.due("8 changes nothing: what it sees", 0, x.commit(2));
        check.due("8 changes nothing: committed", 3, x.state(2));
        check.due("8 reader", 0, x.commit(reader));
        check.due("8 reader's state", 3, x.state(reader));
        check.refused("8 twice", () -> x.commit(reader));
        for (int wrong : WRONG) {
            check.unknown("8 none such", () -> x.commit(wrong));
        }
        check.unknown("8 none such", () -> x.commit(4));
        check.due("8 latest", 2, x.latest());
    }

    private static void promise8CommitRefuses() {
        VersionTrans x = withWriters(5);
        x.put(0, 100, true);
        x.put(1, 101, true);
        x.put(1, 100, true);
        check.refused("8 waits", () -> x.commit(1));
        check.due("8 still waits", 1, x.state(1));
        x.put(2, 101, true);
        x.note(3, 2);
        x.note(4, 3);
        check.due("8 first", 1, x.commit(0));
        check.due("8 failed by it", 2, x.state(1));
        check.due("8 failed: 0", 0, x.commit(1));
        check.due("8 failed: aborted", 4, x.state(1));
        check.due("8 those that waited for it", 0, x.state(2));
        x.put(3, 5, true);
        check.due("8 noted graph", 0, x.commit(3));
        check.due("8 aborted", 4, x.state(3));
        check.due("8 leaves nothing", 1, x.rows());
        x.put(4, 5, true);
        check.due("8 held nothing, other graph", 2, x.commit(4));

        VersionTrans y = withWriters(1);
        y.note(0, 0);
        write(y, 0, true);
        check.due("8 noted graph, no writes", 0, y.commit(0));
        check.due("8 noted graph, no writes: aborted", 4, y.state(0));
        check.due("8 counted", 1, y.conflicts(1, 0));
    }

    private static void promise9Abort() {
        VersionTrans x = withWriters(3);
        int reader = x.look(0);
        check.due("9 reader", 0, x.abort(reader));
        check.due("9 reader's state", 4, x.state(reader));
        x.put(0, 1, true);
        x.put(0, 2, true);
        x.put(0, 2, false);
        x.put(1, 3, true);
        x.put(1, 1, true);
        check.due("9 waits: the waiting write is not its own", 1, x.abort(1));
        check.due("9 waits no more", -1, x.waits(1));
        check.due("9 own", 2, x.abort(0));
        check.due("9 leaves nothing", 0, x.latest());
        check.due("9 did not come back", 4, x.state(1));
        check.due("9 holds nothing", 1, x.put(2, 1, true));
        check.due("9 holds nothing", 1, x.put(2, 3, true));
        write(x, 7, true);
        check.due("9 fails", -1, x.put(2, 7, true));
        check.due("9 failed: own", 2, x.abort(2));
        check.refused("9 twice", () -> x.abort(2));
        check.refused("9 committed", () -> x.abort(4));
        for (int wrong : WRONG) {
            check.unknown("9 none such", () -> x.abort(wrong));
        }
        check.unknown("9 none such", () -> x.abort(5));
    }

    private static void promise9AbortFreesThoseThatWait() {
        VersionTrans x = withWriters(4);
        x.put(0, 1, true);
        x.put(0, 2, true);
        x.put(3, 1, true);
        x.put(1, 2, true);
        x.put(2, 1, true);
        x.abort(0);
        check.due("9 3 was first at 1", 0, x.state(3));
        check.due("9 1 was alone at 2", 0, x.state(1));
        check.due("9 2 waits for 3", 3, x.waits(2));
    }

    private static void promise10Pin() {
        VersionTrans x = new VersionTrans();
        check.due("10 once", 1, x.pin(0));
        check.due("10 twice", 2, x.pin(0));
        write(x, 1, true);
        write(x, 2, true);
        check.due("10 not kept, but not below the least", 1, x.pin(1));
        check.due("10 latest", 1, x.pin(2));
        check.due("10 kept", 0, x.least());
        check.unknown("10 above", () -> x.pin(3));
        for (int wrong : WRONG) {
            check.unknown("10 none such", () -> x.pin(wrong));
        }
        x.unpin(0);
        x.unpin(0);
        check.due("10 the next", 1, x.least());
        check.unknown("10 below", () -> x.pin(0));
        check.due("10 nothing was changed", 1, x.least());
    }

    private static void promise11Unpin() {
        VersionTrans x = new VersionTrans();
        check.unknown("11 not pinned", () -> x.unpin(0));
        x.pin(0);
        x.pin(0);
        write(x, 1, true);
        check.due("11 once less", 1, x.unpin(0));
        check.due("11 still kept", 0, x.least());
        check.due("11 none left", 0, x.unpin(0));
        check.due("11 not kept", 1, x.least());
        check.unknown("11 no more", () -> x.unpin(0));
        check.unknown("11 latest, not pinned", () -> x.unpin(1));
        check.unknown("11 above", () -> x.unpin(2));
        for (int wrong : WRONG) {
            check.unknown("11 none such", () -> x.unpin(wrong));
        }
        check.unknown("11 above all", () -> x.unpin(61));
        x.pin(1);
        check.due("11 latest", 0, x.unpin(1));
    }

    private static void promise12Free() {
        VersionTrans x = new VersionTrans();
        write(x, 1, true);
        check.due("12 needed", 0, x.free());
        write(x, 1, false);
        write(x, 2, true);
        check.due("12 both rows of 1", 2, x.free());
        check.due("12 left", 1, x.rows());
        check.due("12 again", 0, x.free());
        check.due("12 told as before", true, x.told(3, 2));
        check.due("12 told as before", false, x.told(3, 1));
        write(x, 2, false);
        write(x, 2, true);
        check.due("12 those below the greatest", 2, x.free());
        check.due("12 it is told", true, x.told(5, 2));
        check.due("12 they are dropped once", 0, x.free());
        check.due("12 one is left", 1, x.rows());
        int writer = x.begin();
        check.due("12 the freed triple can be written", 1, x.put(writer, 1, true));
        check.due("12 and makes a version", 6, x.commit(writer));
        check.due("12 told", true, x.told(6, 1));
    }

    private static void promise12FreeKeepsWhatIsSeen() {
        VersionTrans x = new VersionTrans();
        write(x, 1, true);
        write(x, 1, false);
        x.pin(2);
        write(x, 1, true);
        write(x, 1, false);
        check.due("12 row 2 tells not there: it goes, with row 1", 2, x.free());
        check.due("12 v2", false, x.told(2, 1));
        check.due("12 v3", true, x.told(3, 1));
        check.due("12 v4", false, x.told(4, 1));
        check.due("12 rows", 2, x.rows());
        x.pin(3);
        x.unpin(2);
        check.due("12 row 3 tells there: it stays", 0, x.free());
        x.unpin(3);
        check.due("12 all", 2, x.free());
        check.due("12 none", 0, x.rows());

        VersionTrans y = withWriters(1);
        write(y, 1, true);
        write(y, 1, false);
        check.due("12 a writer sees version 0", 0, y.free());
        check.due("12 its conflict is still known", -1, y.put(0, 1, true));
        check.due("12 a failed one still sees it", 0, y.free());
        y.commit(0);
        check.due("12 now", 2, y.free());
    }

    private static void promise13Rows() {
        VersionTrans x = withWriters(2);
        x.put(0, 1, true);
        x.put(0, 51, true);
        x.put(0, 2, false);
        check.due("13 none yet", 0, x.rows());
        x.commit(0);
        check.due("13 two", 2, x.rows());
        x.put(1, 9, true);
        x.abort(1);
        check.due("13 an aborted one has none", 2, x.rows());
        write(x, 1, false);
        check.due("13 a row that tells not there counts", 3, x.rows());
        x.free();
        check.due("13 less the freed", 1, x.rows());
    }

    private static void promise14Latest() {
        VersionTrans x = new VersionTrans();
        for (int version = 1; version <= 60; version++) {
            check.due("14 made", version, write(x, 4, version % 2 == 1));
            check.due("14 latest", version, x.latest());
        }
        check.due("14 all rows", 60, x.rows());
        check.due("14 pin the last", 1, x.pin(60));
        check.due("14 unpin the last", 0, x.unpin(60));
        check.due("14 told", false, x.told(60, 4));
        check.due("14 free", 60, x.free());
        check.due("14 latest stays", 60, x.latest());
    }

    private static void promise15Least() {
        VersionTrans x = withWriters(4);
        x.put(0, 1, true);
        x.put(1, 2, true);
        x.commit(1);
        check.due("15 open", 0, x.least());
        x.put(2, 1, true);
        x.commit(0);
        check.due("15 failed", 2, x.state(2));
        check.due("15 failed and open", 0, x.least());
        x.abort(3);
        check.due("15 failed alone", 0, x.least());
        x.commit(2);
        check.due("15 latest", 2, x.least());
        int reader = x.look(2);
        int holder = x.begin();
        int waiter = x.begin();
        x.put(holder, 7, false);
        x.put(waiter, 7, false);
        write(x, 3, true);
        check.due("15 reader", 2, x.least());
        x.commit(reader);
        check.due("15 writers", 2, x.least());
        x.pin(2);
        x.abort(holder);
        x.abort(waiter);
        check.due("15 pinned", 2, x.least());
        x.unpin(2);
        check.due("15 latest again", 3, x.least());
        leastOfOneThatWaits();
    }

    private static void leastOfOneThatWaits() {
        VersionTrans x = withWriters(1);
        write(x, 1, true);
        int holder = x.begin();
        x.put(holder, 2, true);
        x.put(0, 2, true);
        check.due("15 waits", 1, x.state(0));
        check.due("15 what it sees is kept", 0, x.least());
        check.due("15 and can be told", false, x.told(0, 1));
        x.abort(0);
        check.due("15 no more", 1, x.least());
    }

    private static void promise16State() {
        VersionTrans x = withWriters(4);
        x.look(0);
        check.due("16 open", 0, x.state(0));
        check.due("16 reader", 0, x.state(4));
        x.put(0, 1, true);
        x.put(1, 1, true);
        check.due("16 waits", 1, x.state(1));
        x.commit(0);
        check.due("16 committed", 3, x.state(0));
        check.due("16 failed", 2, x.state(1));
        x.abort(1);
        check.due("16 aborted", 4, x.state(1));
        check.unknown("16 none such", () -> x.state(5));
        for (int wrong : WRONG) {
            check.unknown("16 none such", () -> x.state(wrong));
        }
    }

    private static void promise17Waits() {
        VersionTrans x = withWriters(3);
        x.put(0, 1, true);
        x.put(1, 1, true);
        check.due("17 holder does not", -1, x.waits(0));
        check.due("17 for 0", 0, x.waits(1));
        x.put(2, 1, true);
        check.due("17 for the holder, not the waiter", 0, x.waits(2));
        x.commit(0);
        check.due("17 failed", -1, x.waits(1));
        check.due("17 failed, too", 2, x.state(2));
        x.abort(1);
        check.due("17 aborted", -1, x.waits(1));
        check.unknown("17 none such", () -> x.waits(3));
        for (int wrong : WRONG) {
            check.unknown("17 none such", () -> x.waits(wrong));
        }
    }

    /** Those that wait are tried in the order in which they began, not in that of their numbers. */
    private static void promise17WaitsInOrder() {
        VersionTrans x = withWriters(5);
        x.put(2, 1, true);
        x.put(4, 1, true);
        x.put(0, 1, true);
        x.put(3, 1, true);
        x.put(1, 1, true);
        int[] order = {2, 4, 0, 3, 1};
        for (int i = 0; i + 1 < order.length; i++) {
            for (int k = i + 1; k < order.length; k++) {
                check.due("17 " + order[k] + " waits", order[i], x.waits(order[k]));
            }
            x.abort(order[i]);
            check.due("17 next is " + order[i + 1], 0, x.state(order[i + 1]));
        }
    }

    private static void promise18Ring() {
        VersionTrans x = withWriters(6);
        for (int i = 0; i < 6; i++) {
            x.put(i, i, true);
        }
        x.put(4, 1, true);
        x.put(1, 3, true);
        x.put(0, 1, true);
        check.due("18 none yet", -1, x.ring(0));
        check.due("18 closes the ring, and is done by the abort", 1, x.put(3, 4, true));
        int[] members = {1, 3, 4};
        for (int i = 0; i < members.length; i++) {
            check.due("18 by number", members[i], x.ring(i));
        }
        check.due("18 no more", -1, x.ring(3));
        check.due("18 greatest aborted", 4, x.state(4));
        check.due("18 the one outside is left alone", 1, x.waits(0));
        for (int wrong : WRONG) {
            check.due("18 none such", -1, x.ring(wrong));
        }
        check.due("18 ring stays", 1, x.ring(0));
        x.put(2, 5, true);
        check.due("18 itself", -2, x.put(5, 2, true));
        check.due("18 latest ring", 2, x.ring(0));
        check.due("18 latest ring", 5, x.ring(1));
        check.due("18 the former one is gone", -1, x.ring(2));
        greatestRing();
    }

    private static void greatestRing() {
        VersionTrans x = withWriters(60);
        for (int i = 0; i < 60; i++) {
            x.put(i, i, true);
        }
        for (int i = 0; i < 59; i++) {
            check.due("18 long chain", 0, x.put(i, i + 1, true));
        }
        check.due("18 all in one ring", -2, x.put(59, 0, true));
        for (int i = 0; i < 60; i++) {
            check.due("18 member", i, x.ring(i));
        }
        check.due("18 no more", -1, x.ring(60));
        check.due("18 the last but one goes on", 0, x.state(58));
        check.due("18 the others wait", 58, x.waits(57));
    }

    private static void promise19Conflicts() {
        VersionTrans x = withWriters(7);
        for (int i = 0; i < 3; i++) {
            x.note(i, 3);
            x.note(i, 1);
        }
        x.put(3, 199, true);
        x.put(4, 199, true);
        x.commit(3);
        check.due("19 failed when tried again", 1, x.conflicts(0, 199));
        x.put(5, 199, false);
        check.due("19 failed at once", 2, x.conflicts(0, 199));
        x.commit(4);
        check.due("19 commit of a failed one does not count", 0, x.conflicts(1, 3));
        x.commit(0);
        check.due("19 graph 3", 1, x.conflicts(1, 3));
        write(x, 50, true);
        x.commit(1);
        check.due("19 the least one that changed", 1, x.conflicts(1, 1));
        check.due("19 and not the other", 1, x.conflicts(1, 3));
        x.put(2, 199, true);
        x.commit(2);
        check.due("19 failed, with changed graphs", 1, x.conflicts(1, 1));
        check.due("19 by the triple", 3, x.conflicts(0, 199));
        check.due("19 other triple", 0, x.conflicts(0, 50));
        for (int wrong : WRONG) {
            check.unknown("19 kind", () -> x.conflicts(wrong, 0));
            check.unknown("19 triple", () -> x.conflicts(0, wrong));
            check.unknown("19 graph", () -> x.conflicts(1, wrong));
        }
        check.unknown("19 kind 2", () -> x.conflicts(2, 0));
        check.unknown("19 triple 200", () -> x.conflicts(0, 200));
        check.unknown("19 graph 4", () -> x.conflicts(1, 4));
    }
}

import java.util.function.Consumer;

/**
 * What the document's 'What it is' and 'Terms' say at their boundaries: for each sentence (or part of
 * one that can be broken by itself) a test of its own, which bears its words.
 */
public final class BoundaryTermsTest {
    private static final int[] OF_THE_SCENE = {0, 1, 10, 12, 13, 14, 30, 60, 61, 199};
    private static final Check check = new Check();

    public static void main(String[] args) {
        check.run(BoundaryTermsTest::calls512OfOneKind);
        check.run(BoundaryTermsTest::calls512WithAllVersions);
        check.run(BoundaryTermsTest::calls512WithAllTriples);
        check.run(BoundaryTermsTest::nextVersionWhole);
        check.run(BoundaryTermsTest::nextVersionNotAtAll);
        check.run(BoundaryTermsTest::triples0To199);
        check.run(BoundaryTermsTest::graphIsTripleBy50);
        check.run(BoundaryTermsTest::graphs0To3);
        check.run(BoundaryTermsTest::versionsFrom0);
        check.run(BoundaryTermsTest::version0IsEmpty);
        check.run(BoundaryTermsTest::greatestRowNotAbove);
        check.run(BoundaryTermsTest::noRowIsNotThere);
        check.run(BoundaryTermsTest::transactionsFrom0AtMost60);
        check.run(BoundaryTermsTest::endedOnesCountAmong60);
        check.run(BoundaryTermsTest::eachSeesOneVersion);
        check.run(BoundaryTermsTest::writeFailsByARowAbove);
        check.run(BoundaryTermsTest::rowOfTheSeenVersionIsNotAbove);
        check.run(BoundaryTermsTest::failingComesBeforeWaiting);
        check.run(BoundaryTermsTest::writeWaitsForTheHolder);
        check.run(BoundaryTermsTest::holdersOfEveryStateAreWaitedFor);
        check.run(BoundaryTermsTest::waiterDoesNotHold);
        check.run(BoundaryTermsTest::ownWriteTakesTheEarlierOnesPlace);
        check.run(BoundaryTermsTest::holderWritesAgainThoughOthersWait);
        check.run(BoundaryTermsTest::smallestRing);
        check.run(BoundaryTermsTest::greatestRing);
        check.run(BoundaryTermsTest::noRingWithoutAWayBack);
        check.run(BoundaryTermsTest::wayEndsAtOneThatDoesNotWait);
        check.run(BoundaryTermsTest::greatestNumberInTheRingIsAborted);
        check.run(BoundaryTermsTest::endedHoldsNothing);
        check.run(BoundaryTermsTest::firstToWaitIsTriedFirst);
        check.run(BoundaryTermsTest::waitsAnewForAnother);
        check.run(BoundaryTermsTest::triedAgainWithTheSameWrite);
        check.run(BoundaryTermsTest::triedAgainFailsByARow);
        check.run(BoundaryTermsTest::allThatWaitForItAreTried);
        check.run(BoundaryTermsTest::ringPutsItsOwnIntoTheQueue);
        check.run(BoundaryTermsTest::abortedWaiterIsNotTriedAgain);
        check.run(BoundaryTermsTest::failedHoldsTillAborted);
        check.run(BoundaryTermsTest::commitAbortsFailed);
        check.run(BoundaryTermsTest::keptByEachThatSees);
        check.run(BoundaryTermsTest::keptByPins);
        check.run(BoundaryTermsTest::latestIsKept);
        check.run(BoundaryTermsTest::belowTheLeastKept);
        check.run(BoundaryTermsTest::argumentBeforeState);
        check.run(BoundaryTermsTest::nothingIsChanged);
        check.run(BoundaryTermsTest::waitingWriteIsNotChanged);
        check.run(BoundaryTermsTest::refusedAtFullChangesNothing);
        check.end();
    }

    private static VersionTrans withWriters(int count) {
        return Scene.withWriters(count);
    }

    private static int write(VersionTrans x, int triple, boolean there) {
        return Scene.write(x, triple, there);
    }

    // ---- What it is ----

    private static void calls512OfOneKind() {
        check.sentence("An object is used for at most 512 calls: one kind");
        VersionTrans x = new VersionTrans();
        for (int i = 1; i <= 512; i++) {
            check.due("pin " + i, i, x.pin(0));
        }
        VersionTrans y = withWriters(1);
        for (int i = 1; i < 511; i++) {
            check.due("put " + i, 1, y.put(0, 199, i % 2 == 1));
        }
        check.due("call 512", 0, y.commit(0));
    }

    private static void calls512WithAllVersions() {
        check.sentence("An object is used for at most 512 calls: sixty versions");
        VersionTrans x = new VersionTrans();
        check.due("pin", 1, x.pin(0));
        for (int version = 1; version <= 60; version++) {
            int writer = x.begin();
            for (int k = 0; k < 6; k++) {
                x.put(writer, k, version % 2 == 1);
            }
            check.due("commit", version, x.commit(writer));
        }
        check.due("call 482", 360, x.rows());
        check.due("call 483", false, x.told(0, 5));
        check.due("call 484", true, x.told(1, 5));
        check.due("call 485", true, x.told(59, 0));
        check.due("call 486", false, x.told(60, 0));
        check.due("call 487", 0, x.free());
        check.due("call 488", 0, x.unpin(0));
        for (int call = 489; call < 512; call++) {
            check.due("call " + call, 60, x.least());
        }
        check.due("call 512", 360, x.free());
    }

    private static void calls512WithAllTriples() {
        check.sentence("An object is used for at most 512 calls: every triple");
        VersionTrans x = withWriters(1);
        for (int triple = 0; triple < 200; triple++) {
            x.put(0, triple, true);
        }
        check.due("version", 1, x.commit(0));
        int second = x.begin();
        for (int triple = 0; triple < 200; triple++) {
            x.put(second, triple, false);
        }
        check.due("version", 2, x.commit(second));
        check.due("rows", 400, x.rows());
        int third = x.begin();
        for (int triple = 0; triple < 104; triple++) {
            check.due("calls 407 to 510", 1, x.put(third, triple, true));
        }
        check.due("call 511", 400, x.free());
        check.due("call 512", 104, x.abort(third));
    }

    private static void nextVersionWhole() {
        check.sentence("make the next version whole");
        VersionTrans x = withWriters(1);
        x.pin(0);
        for (int triple = 0; triple < 200; triple++) {
            x.put(0, triple, true);
        }
        check.due("one version", 1, x.commit(0));
        check.due("rows", 200, x.rows());
        for (int triple = 0; triple < 200; triple++) {
            check.due("version 1", true, x.told(1, triple));
        }
        check.due("version 0", false, x.told(0, 0) || x.told(0, 199));
    }

    private static void nextVersionNotAtAll() {
        check.sentence("or not at all");
        VersionTrans x = withWriters(4);
        for (int number = 0; number < 3; number++) {
            x.put(number, 10 + number, true);
            x.put(number, 20 + number, true);
        }
        x.note(1, 3);
        x.put(3, 199, true);
        x.commit(3);
        x.put(0, 199, true);
        check.due("failed", 0, x.commit(0));
        check.due("noted", 0, x.commit(1));
        check.due("aborted", 2, x.abort(2));
        check.due("no version", 1, x.latest());
        check.due("no row", 1, x.rows());
        for (int triple = 0; triple < 199; triple++) {
            check.due("nothing of them", false, x.told(1, triple));
        }
    }

    // ---- TRIPLES, VERSIONS, rows ----

    private static void triples0To199() {
        check.sentence("TRIPLES are numbers 0 .. 199");
        VersionTrans x = withWriters(1);
        for (int triple : new int[] {0, 199}) {
            check.due("put", 1, x.put(0, triple, true));
            check.due("read", true, x.read(0, triple));
            check.due("told", false, x.told(0, triple));
            check.due("conflicts", 0, x.conflicts(0, triple));
        }
        noSuchTriple(x, -1);
        noSuchTriple(x, 200);
        for (int triple : Scene.NEVER) {
            noSuchTriple(x, triple);
        }
    }

    private static void noSuchTriple(VersionTrans x, int triple) {
        check.unknown("put of " + triple, () -> x.put(0, triple, true));
        check.unknown("read of " + triple, () -> x.read(0, triple));
        check.unknown("told of " + triple, () -> x.told(0, triple));
        check.unknown("conflicts of " + triple, () -> x.conflicts(0, triple));
    }

    private static void graphIsTripleBy50() {
        check.sentence("triple t lies in GRAPH t / 50");
        for (int triple = 0; triple < 200; triple++) {
            VersionTrans x = withWriters(4);
            for (int graph = 0; graph < 4; graph++) {
                x.note(graph, graph);
            }
            write(x, triple, true);
            for (int graph = 0; graph < 4; graph++) {
                x.commit(graph);
                check.due(triple + " in " + graph, graph == triple / 50 ? 4 : 3, x.state(graph));
                check.due(triple + " counted for " + graph, graph == triple / 50 ? 1 : 0, x.conflicts(1, graph));
            }
        }
    }

    private static void graphs0To3() {
        check.sentence("GRAPH t / 50 (0 .. 3)");
        VersionTrans x = withWriters(1);
        check.due("the first", 1, x.note(0, 0));
        check.due("the last", 2, x.note(0, 3));
        check.due("the first", 0, x.conflicts(1, 0));
        check.due("the last", 0, x.conflicts(1, 3));
        noSuchGraph(x, 4);
        for (int graph : Scene.NEVER) {
            noSuchGraph(x, graph);
        }
        check.due("none was noted", 2, x.note(0, 0));
    }

    private static void noSuchGraph(VersionTrans x, int graph) {
        check.unknown("note of " + graph, () -> x.note(0, graph));
        check.unknown("conflicts of " + graph, () -> x.conflicts(1, graph));
    }

    private static void versionsFrom0() {
        check.sentence("VERSIONS are numbered 0, 1, ..; LATEST is the greatest number");
        VersionTrans x = new VersionTrans();
        x.pin(0);
        for (int latest = 0; latest <= 3; latest++) {
            check.due("latest", latest, x.latest());
            check.due("the least is one", false, x.told(0, 0));
            check.due("the latest is one", latest > 0, x.told(latest, 0));
            noSuchVersion(x, latest + 1);
            for (int version : Scene.NEVER) {
                noSuchVersion(x, version);
            }
            check.due("the next", latest + 1, write(x, latest, true));
        }
    }

    private static void noSuchVersion(VersionTrans x, int version) {
        check.unknown("told of " + version, () -> x.told(version, 0));
        check.unknown("look at " + version, () -> x.look(version));
        check.unknown("pin of " + version, () -> x.pin(version));
        check.unknown("unpin of " + version, () -> x.unpin(version));
    }

    private static void version0IsEmpty() {
        check.sentence("in version 0 no triple is there");
        VersionTrans x = withWriters(1);
        for (int triple = 0; triple < 200; triple++) {
            check.due("told", false, x.told(0, triple));
            check.due("read", false, x.read(0, triple));
        }
        VersionTrans y = withWriters(1);
        int reader = y.look(0);
        for (int triple = 0; triple < 200; triple++) {
            y.put(0, triple, true);
        }
        y.commit(0);
        for (int triple = 0; triple < 200; triple++) {
            check.due("told when version 1 has it", false, y.told(0, triple));
        }
        for (int triple = 0; triple < 200; triple += 10) {
            check.due("read when version 1 has it", false, y.read(reader, triple));
        }
    }

    private static void greatestRowNotAbove() {
        check.sentence("the row with the greatest number that is not above it counts");
        VersionTrans x = new VersionTrans();
        x.pin(0);
        write(x, 9, true);
        write(x, 7, true);
        write(x, 8, true);
        write(x, 7, false);
        write(x, 8, false);
        write(x, 7, true);
        boolean[] of7 = {false, false, true, true, false, false, true};
        for (int version = 0; version <= 6; version++) {
            check.due("version " + version, of7[version], x.told(version, 7));
            int reader = x.look(version);
            check.due("reader of version " + version, of7[version], x.read(reader, 7));
        }
    }

    private static void noRowIsNotThere() {
        check.sentence("not there, when there is none");
        VersionTrans x = new VersionTrans();
        x.pin(0);
        write(x, 7, true);
        write(x, 8, true);
        check.due("no row at all", false, x.told(2, 9));
        check.due("no row so early", false, x.told(1, 8));
        check.due("its neighbour", true, x.told(2, 8));
        write(x, 7, false);
        x.unpin(0);
        check.due("rows dropped", 2, x.free());
        check.due("dropped rows", false, x.told(3, 7));
    }

    // ---- TRANSACTIONS ----

    private static void transactionsFrom0AtMost60() {
        check.sentence("TRANSACTIONS are numbered from 0, at most 60");
        VersionTrans x = new VersionTrans();
        check.unknown("none yet", () -> x.state(0));
        for (int number = 0; number < 60; number++) {
            check.due("number", number, number % 3 == 1 ? x.look(0) : x.begin());
            int next = number + 1;
            check.unknown("the next is not there", () -> x.state(next));
        }
        check.due("the last", 0, x.state(59));
        check.refused("a writer too many", x::begin);
        check.refused("a reader too many", () -> x.look(0));
        noSuchTransaction(x, 60);
        for (int number : Scene.NEVER) {
            noSuchTransaction(x, number);
        }
    }

    private static void noSuchTransaction(VersionTrans x, int number) {
        check.unknown("put by " + number, () -> x.put(number, 0, true));
        check.unknown("note by " + number, () -> x.note(number, 0));
        check.unknown("read by " + number, () -> x.read(number, 0));
        check.unknown("commit of " + number, () -> x.commit(number));
        check.unknown("abort of " + number, () -> x.abort(number));
        check.unknown("state of " + number, () -> x.state(number));
        check.unknown("waits of " + number, () -> x.waits(number));
    }

    private static void endedOnesCountAmong60() {
        check.sentence("at most 60: ended ones, too");
        VersionTrans x = new VersionTrans();
        for (int number = 0; number < 60; number++) {
            check.due("number", number, x.begin());
            check.due("end", 0, number % 2 == 0 ? x.commit(number) : x.abort(number));
        }
        check.refused("a writer too many", x::begin);
        check.refused("a reader too many", () -> x.look(0));
    }

    private static void eachSeesOneVersion() {
        check.sentence("a WRITER or a READER, each SEES a version");
        VersionTrans x = withWriters(1);
        int early = x.look(0);
        write(x, 5, true);
        int middle = x.begin();
        write(x, 5, false);
        int late = x.look(1);
        check.due("writer of 0", false, x.read(0, 5));
        check.due("reader of 0", false, x.read(early, 5));
        check.due("writer of 1", true, x.read(middle, 5));
        check.due("reader of 1, begun later", true, x.read(late, 5));
    }

    // ---- WRITES ----

    private static void writeFailsByARowAbove() {
        check.sentence("1 a version above the one that it sees has a row of the triple: it FAILS");
        VersionTrans x = withWriters(4);
        write(x, 5, true);
        check.due("one above", -1, x.put(0, 5, true));
        check.due("one above, otherwise", -1, x.put(1, 5, false));
        check.due("the triple below", 1, x.put(2, 4, true));
        check.due("the triple above", 1, x.put(2, 6, true));
        write(x, 5, false);
        check.due("two above, told as at first", -1, x.put(2, 5, false));
        check.due("by the triple", 3, x.conflicts(0, 5));
        write(x, 7, false);
        check.due("a write that made no row", 1, x.put(3, 7, true));
    }

    private static void rowOfTheSeenVersionIsNotAbove() {
        check.sentence("above the one that it sees: not its own row");
        VersionTrans x = new VersionTrans();
        x.pin(0);
        write(x, 5, true);
        int writer = x.begin();
        check.due("the row of the version that it sees", 1, x.put(writer, 5, false));
        write(x, 6, true);
        check.due("a later version without a row of it", 1, x.put(writer, 5, true));
        check.due("the row of the later version", -1, x.put(writer, 6, true));
    }

    private static void failingComesBeforeWaiting() {
        check.sentence("the first of these that fits: 1 before 2");
        VersionTrans x = withWriters(1);
        write(x, 5, true);
        int holder = x.begin();
        check.due("held", 1, x.put(holder, 5, false));
        check.due("fails, does not wait", -1, x.put(0, 5, false));
        check.due("waits for none", -1, x.waits(0));
    }

    private static void writeWaitsForTheHolder() {
        check.sentence("2 another writer HOLDS the triple: it WAITS for that one");
        VersionTrans x = withWriters(3);
        x.put(1, 0, true);
        check.due("not held", 1, x.put(0, 1, true));
        check.due("held by a greater number", 0, x.put(0, 0, true));
        check.due("for that one", 1, x.waits(0));
        check.due("held by a waiter", 0, x.put(2, 1, false));
        check.due("for that one", 0, x.waits(2));
        check.due("a write that changes nothing is held as well", 1, x.put(1, 150, false));
        x.begin();
        check.due("so it is waited for", 0, x.put(3, 150, false));
        check.due("nothing is held by reading", 1, x.state(3));
        x.look(0);
        x.read(4, 60);
        check.due("a read triple is not held", 1, x.put(1, 60, true));
        x.begin();
        x.note(5, 3);
        check.due("a noted graph is not held", 1, x.put(1, 151, true));
    }

    private static void holdersOfEveryStateAreWaitedFor() {
        check.sentence("another writer HOLDS the triple: open, waiting or failed");
        VersionTrans x = withWriters(5);
        x.put(0, 10, true);
        x.put(1, 11, true);
        x.put(2, 12, true);
        write(x, 199, true);
        x.put(1, 10, true);
        x.put(2, 199, true);
        check.due("1 waits", 1, x.state(1));
        check.due("2 failed", 2, x.state(2));
        int later = x.begin();
        check.due("open", 0, x.put(3, 10, true));
        check.due("waiting", 0, x.put(4, 11, true));
        check.due("failed", 0, x.put(later, 12, true));
        check.due("for the open one", 0, x.waits(3));
        check.due("for the waiting one", 1, x.waits(4));
        check.due("for the failed one", 2, x.waits(later));
    }

    private static void waiterDoesNotHold() {
        check.sentence("3 it holds the triple from now on: not while it waits");
        VersionTrans x = withWriters(3);
        x.put(0, 10, true);
        x.put(1, 10, true);
        x.put(2, 10, true);
        check.due("the second waits for the holder, too", 0, x.waits(2));
        check.due("not its own", false, x.read(1, 10));
        check.due("no write of its own", 0, x.abort(1));
    }

    private static void ownWriteTakesTheEarlierOnesPlace() {
        check.sentence("an earlier one to the same triple is no more");
        VersionTrans x = withWriters(2);
        x.put(0, 10, true);
        x.put(0, 10, false);
        check.due("the later one", false, x.read(0, 10));
        check.due("one write", 1, x.abort(0));
        x.put(1, 10, true);
        x.put(1, 11, false);
        x.put(1, 10, false);
        x.put(1, 11, true);
        check.due("a version", 1, x.commit(1));
        check.due("one row", 1, x.rows());
        check.due("the later ones count", true, x.told(1, 11) && !x.told(1, 10));
    }

    private static void holderWritesAgainThoughOthersWait() {
        check.sentence("another writer HOLDS the triple: not itself");
        VersionTrans x = withWriters(2);
        x.put(0, 10, true);
        x.put(1, 10, true);
        check.due("its own triple", 1, x.put(0, 10, false));
        check.due("no ring", -1, x.ring(0));
        check.due("the other one waits on", 0, x.waits(1));
    }

    // ---- RINGS ----

    private static void smallestRing() {
        check.sentence("one comes to it again, those are a RING: the smallest");
        VersionTrans x = withWriters(2);
        x.put(0, 10, true);
        x.put(1, 11, true);
        check.due("waits", 0, x.put(0, 11, true));
        check.due("no ring yet", -1, x.ring(0));
        check.due("ring", -2, x.put(1, 10, true));
        check.due("member 0", 0, x.ring(0));
        check.due("member 1", 1, x.ring(1));
        check.due("no more", -1, x.ring(2));
    }

    private static void greatestRing() {
        check.sentence("one comes to it again, those are a RING: all sixty");
        VersionTrans x = withWriters(60);
        for (int i = 0; i < 60; i++) {
            x.put(i, 199 - i, true);
        }
        for (int i = 59; i > 0; i--) {
            check.due("waits", 0, x.put(i, 200 - i, true));
        }
        check.due("closes the ring, and is done by the abort", 1, x.put(0, 140, true));
        check.due("the greatest", 4, x.state(59));
        for (int i = 0; i < 60; i++) {
            check.due("member", i, x.ring(i));
        }
        check.due("no more", -1, x.ring(60));
        check.due("has what it waited for", true, x.read(0, 140));
        for (int i = 1; i < 59; i++) {
            check.due("waits on", i - 1, x.waits(i));
        }
    }

    private static void noRingWithoutAWayBack() {
        check.sentence("going from it, one comes to it again: else there is no ring");
        VersionTrans x = withWriters(60);
        for (int i = 0; i < 59; i++) {
            x.put(i, i, true);
        }
        for (int i = 1; i < 60; i++) {
            check.due("a chain", 0, x.put(i, i - 1, true));
            check.due("waits", i - 1, x.waits(i));
        }
        check.due("no ring", -1, x.ring(0));
        check.due("the first is open", 0, x.state(0));

        VersionTrans y = withWriters(60);
        y.put(0, 0, true);
        for (int i = 1; i < 60; i++) {
            check.due("a star", 0, y.put(i, 0, true));
        }
        check.due("no ring", -1, y.ring(0));
    }

    private static void wayEndsAtOneThatDoesNotWait() {
        check.sentence("as long as that one waits itself");
        VersionTrans x = withWriters(3);
        x.put(0, 10, true);
        x.put(1, 11, true);
        x.put(2, 12, true);
        write(x, 199, true);
        x.put(1, 10, true);
        x.abort(0);
        check.due("1 waits no more", 0, x.state(1));
        x.put(2, 11, true);
        x.put(1, 199, true);
        check.due("1 has failed, 2 waits for it", 1, x.waits(2));
        int later = x.begin();
        check.due("to 2, to 1, no further", 0, x.put(later, 12, true));
        check.due("no ring", -1, x.ring(0));
    }

    private static void greatestNumberInTheRingIsAborted() {
        check.sentence("the one with the greatest number among them is aborted");
        for (int closes = 0; closes < 3; closes++) {
            VersionTrans x = withWriters(5);
            int[] members = {1, 2, 3};
            for (int number : members) {
                x.put(number, 10 + number, true);
            }
            check.due("greater, and outside", 0, x.put(4, 11, true));
            x.put(0, 20, true);
            for (int k = 1; k <= 3; k++) {
                int number = members[(closes + k) % 3];
                x.put(number, number == 3 ? 11 : 11 + number, true);
            }
            check.due("the greatest of the ring", 4, x.state(3));
            check.due("not the greatest of all", 1, x.state(4));
            check.due("not the least", 1, x.state(1));
            check.due("not the one behind", 0, x.state(2));
            check.due("not another", 0, x.state(0));
            check.due("members", 123, x.ring(0) * 100 + x.ring(1) * 10 + x.ring(2));
            check.due("no more", -1, x.ring(3));
        }
    }

    // ---- WHEN A WRITER ENDS ----

    private static void endedHoldsNothing() {
        check.sentence("WHEN A WRITER ENDS, it holds nothing any more");
        VersionTrans x = withWriters(7);
        x.put(0, 10, true);
        x.commit(0);
        x.put(1, 11, false);
        x.commit(1);
        x.put(2, 12, true);
        x.abort(2);
        x.put(3, 13, true);
        x.put(3, 10, true);
        x.commit(3);
        x.put(4, 14, true);
        x.note(4, 0);
        x.commit(4);
        x.put(5, 15, true);
        x.put(6, 16, true);
        x.put(5, 16, true);
        x.put(6, 15, true);
        x.abort(5);
        int[] states = {3, 3, 4, 4, 4, 4, 4};
        int writer = x.begin();
        for (int i = 0; i < states.length; i++) {
            check.due("how it ended", states[i], x.state(i));
            check.due("what it held", 1, x.put(writer, 10 + i, true));
        }
    }

    private static void firstToWaitIsTriedFirst() {
        check.sentence("the one that began to wait first before the others");
        int[][] orders = {{0, 1, 2, 3}, {3, 2, 1, 0}, {2, 0, 3, 1}, {1, 3, 0, 2}};
        for (int[] order : orders) {
            VersionTrans x = withWriters(5);
            x.put(4, 10, true);
            for (int number : order) {
                x.put(number, 10, true);
            }
            x.abort(4);
            for (int k = 0; k < 4; k++) {
                check.due("has it", 0, x.state(order[k]));
                for (int behind = k + 1; behind < 4; behind++) {
                    check.due("waits for that one", order[k], x.waits(order[behind]));
                }
                x.abort(order[k]);
            }
        }
    }

    private static void waitsAnewForAnother() {
        check.sentence("it may begin to wait for another one");
        VersionTrans x = withWriters(3);
        x.put(2, 10, true);
        x.put(1, 10, true);
        x.put(0, 10, true);
        x.commit(x.begin());
        check.due("an end that is not awaited changes nothing", 2, x.waits(0));
        x.abort(2);
        check.due("the first has it", true, x.read(1, 10));
        check.due("the second waits for the first", 1, x.waits(0));
        check.due("not yet its own", false, x.read(0, 10));
    }

    private static void triedAgainWithTheSameWrite() {
        check.sentence("its write is tried again, as above");
        for (int k = 0; k < 2; k++) {
            boolean there = k == 0;
            VersionTrans x = new VersionTrans();
            write(x, 10, !there);
            int holder = x.begin();
            int waiter = x.begin();
            x.put(holder, 10, there);
            x.put(waiter, 10, there);
            check.due("before", !there, x.read(waiter, 10));
            x.abort(holder);
            check.due("open", 0, x.state(waiter));
            check.due("waits for none", -1, x.waits(waiter));
            check.due("its write", there, x.read(waiter, 10));
            check.due("holds it", 0, x.put(x.begin(), 10, there));
            check.due("own", 1, x.abort(waiter));
        }
    }

    private static void triedAgainFailsByARow() {
        check.sentence("its write is tried again, as above: it fails where a row was made");
        VersionTrans x = withWriters(4);
        x.put(0, 10, true);
        x.put(0, 11, false);
        x.put(1, 10, true);
        x.put(2, 11, true);
        x.put(3, 10, false);
        check.due("commit", 1, x.commit(0));
        check.due("by the row", 2, x.state(1));
        check.due("the second, too", 2, x.state(3));
        check.due("where no row was made", 0, x.state(2));
        check.due("counted", 2, x.conflicts(0, 10));
        check.due("not counted", 0, x.conflicts(0, 11));
    }

    private static void allThatWaitForItAreTried() {
        check.sentence("those that wait for it come behind a QUEUE; done before a call answers");
        VersionTrans x = withWriters(60);
        for (int i = 0; i < 59; i++) {
            x.put(0, i, true);
        }
        for (int i = 1; i < 60; i++) {
            check.due("waits", 0, x.put(i, i - 1, true));
        }
        check.due("abort", 59, x.abort(0));
        for (int i = 1; i < 60; i++) {
            check.due("open", 0, x.state(i));
            check.due("has it", true, x.read(i, i - 1));
        }
    }

    private static void ringPutsItsOwnIntoTheQueue() {
        check.sentence("what is aborted by a ring ends, too, and puts its own behind the queue");
        VersionTrans x = withWriters(5);
        x.put(4, 10, true);
        x.put(4, 11, true);
        x.put(1, 12, true);
        x.put(0, 10, true);
        x.put(2, 11, true);
        x.put(3, 10, true);
        x.put(4, 12, true);
        check.due("behind 0 and 3 in the queue", 0, x.put(1, 10, true));
        check.due("aborted", 4, x.state(4));
        check.due("0 was first", 0, x.state(0));
        check.due("2 was alone", 0, x.state(2));
        check.due("3 waits for 0", 0, x.waits(3));
        check.due("1 waits for 0", 0, x.waits(1));
    }

    private static void abortedWaiterIsNotTriedAgain() {
        check.sentence("if it still waits, its write is tried again");
        VersionTrans x = withWriters(3);
        x.put(0, 10, true);
        x.put(1, 10, true);
        x.put(2, 10, true);
        x.abort(1);
        x.abort(0);
        check.due("stays aborted", 4, x.state(1));
        check.due("the next has it", 0, x.state(2));
        check.due("its own", true, x.read(2, 10));
    }

    // ---- FAILED ----

    private static void failedHoldsTillAborted() {
        check.sentence("FAILED ones hold what they held till they are aborted");
        VersionTrans x = withWriters(2);
        x.put(0, 10, true);
        write(x, 11, true);
        check.due("fails", -1, x.put(0, 11, true));
        check.due("its own is its own", true, x.read(0, 10));
        check.due("others wait", 0, x.put(1, 10, true));
        int later = x.begin();
        check.due("what it failed by is not held", 1, x.put(later, 11, false));
        check.due("own writes", 1, x.abort(0));
        check.due("then it is free", 0, x.state(1));
    }

    private static void commitAbortsFailed() {
        check.sentence("COMMIT aborts them");
        VersionTrans x = withWriters(2);
        x.put(0, 10, true);
        write(x, 11, true);
        x.put(0, 11, true);
        x.put(1, 10, true);
        check.due("0", 0, x.commit(0));
        check.due("aborted", 4, x.state(0));
        check.due("what it held is free", 0, x.state(1));
        check.due("no version", 1, x.latest());
        check.refused("it has ended", () -> x.commit(0));
    }

    // ---- KEPT ----

    private static void keptByEachThatSees() {
        check.sentence("KEPT are versions that an open, waiting or failed transaction sees");
        for (int kind = 0; kind < 4; kind++) {
            VersionTrans x = new VersionTrans();
            int one = kind == 3 ? x.look(0) : x.begin();
            write(x, 10, true);
            int holder = x.begin();
            x.put(holder, 11, true);
            if (kind == 1 || kind == 2) {
                x.put(one, kind == 1 ? 11 : 10, true);
            }
            check.due("state", kind == 3 ? 0 : kind, x.state(one));
            check.due("kept", 0, x.least());
            check.due("can be told", false, x.told(0, 10));
            x.abort(one);
            check.due("kept no more", 1, x.least());
            check.unknown("can't be told", () -> x.told(0, 10));
        }
        VersionTrans y = withWriters(1);
        write(y, 10, true);
        check.due("kept till the commit", 0, y.least());
        y.commit(0);
        check.due("committed: kept no more", 1, y.least());
    }

    private static void keptByPins() {
        check.sentence("KEPT are those that are pinned");
        VersionTrans x = new VersionTrans();
        x.pin(0);
        x.pin(0);
        write(x, 10, true);
        check.due("pinned twice", 0, x.least());
        x.unpin(0);
        check.due("pinned once", 0, x.least());
        x.unpin(0);
        check.due("not pinned", 1, x.least());
    }

    private static void latestIsKept() {
        check.sentence("KEPT is the latest one");
        VersionTrans x = new VersionTrans();
        for (int version = 0; version <= 3; version++) {
            check.due("nobody sees it", version, x.least());
            check.due("free leaves it", 0, x.free());
            check.due("it is told", version > 0, x.told(version, 10));
            write(x, 10 + version, true);
        }
    }

    /** 'Can be told' is narrowed by promise 7, and a test under ../shared/tests asks that, too. */
    private static void belowTheLeastKept() {
        check.sentence("A version below the least kept one");
        VersionTrans x = new VersionTrans();
        x.pin(0);
        write(x, 10, true);
        write(x, 10, false);
        check.due("not kept, but not below the least", true, x.told(1, 10));
        check.due("free leaves what it needs", 0, x.free());
        check.due("told as before", true, x.told(1, 10));
        x.pin(1);
        x.unpin(0);
        check.unknown("below, not freed", () -> x.told(0, 10));
        check.due("the least", true, x.told(1, 10));
        x.unpin(1);
        check.unknown("below, not freed", () -> x.told(1, 10));
        check.due("freed", 2, x.free());
        check.unknown("below, freed", () -> x.told(1, 10));
    }

    // ---- THROWN ----

    private static void argumentBeforeState() {
        check.sentence("IllegalArgumentException .. else IllegalStateException");
        VersionTrans x = Scene.withEveryState();
        int[] notOpenWriters = {0, 1, 3, 4, 5, 6, 7, 8};
        for (int number : notOpenWriters) {
            check.refused("put by " + number, () -> x.put(number, 0, true));
            check.unknown("put by " + number + " of no triple", () -> x.put(number, 200, true));
            check.refused("note by " + number, () -> x.note(number, 0));
            check.unknown("note by " + number + " of no graph", () -> x.note(number, 4));
        }
        for (int number : new int[] {0, 1, 6, 7, 8}) {
            check.refused("read by " + number, () -> x.read(number, 0));
            check.unknown("read by " + number + " of no triple", () -> x.read(number, -1));
        }
        for (int number = 9; number < 60; number++) {
            x.begin();
        }
        check.refused("look, full", () -> x.look(2));
        check.unknown("look at no version, full", () -> x.look(3));
        x.abort(2);
        x.abort(3);
        x.abort(4);
        x.abort(5);
        check.due("least", 1, x.least());
        check.unknown("look below the least, full", () -> x.look(0));
    }

    private static void nothingIsChanged() {
        check.sentence("Nothing is changed then");
        for (int number : new int[] {0, 1, 6, 7, 8}) {
            unchanged("commit of ended " + number, x -> x.commit(number));
            unchanged("abort of ended " + number, x -> x.abort(number));
            unchanged("read by ended " + number, x -> x.read(number, 1));
        }
        for (int number : new int[] {0, 1, 3, 4, 5, 6, 7, 8}) {
            unchanged("put by " + number, x -> x.put(number, 30, true));
            unchanged("put of a held one by " + number, x -> x.put(number, 10, true));
            unchanged("put of one with rows by " + number, x -> x.put(number, 61, true));
            unchanged("note by " + number, x -> x.note(number, 1));
        }
        unchanged("commit of one that waits", x -> x.commit(3));
        unchanged("unpin of 0", x -> x.unpin(0));
        unchanged("unpin of 2", x -> x.unpin(2));
        for (int none : new int[] {-1, 9, 60, 200, Integer.MAX_VALUE, Integer.MIN_VALUE}) {
            wrongNumberChangesNothing(none);
        }
    }

    private static void wrongNumberChangesNothing(int none) {
        unchanged("look at " + none, x -> x.look(none));
        unchanged("told of version " + none, x -> x.told(none, 1));
        unchanged("pin of " + none, x -> x.pin(none));
        unchanged("unpin of " + none, x -> x.unpin(none));
        unchanged("put by " + none, x -> x.put(none, 30, true));
        unchanged("note by " + none, x -> x.note(none, 1));
        unchanged("read by " + none, x -> x.read(none, 1));
        unchanged("commit of " + none, x -> x.commit(none));
        unchanged("abort of " + none, x -> x.abort(none));
        unchanged("state of " + none, x -> x.state(none));
        unchanged("waits of " + none, x -> x.waits(none));
        unchanged("note of " + none, x -> x.note(2, none));
        unchanged("conflicts of kind " + none, x -> x.conflicts(none, 1));
        unchanged("conflicts of graph " + none, x -> x.conflicts(1, none));
        if (none < 0 || none >= 200) {
            unchanged("put of " + none, x -> x.put(2, none, true));
            unchanged("read of " + none, x -> x.read(2, none));
            unchanged("told of " + none, x -> x.told(2, none));
            unchanged("conflicts of triple " + none, x -> x.conflicts(0, none));
        }
    }

    /** One object has the refused call and its twin has not: they must look the same. */
    private static void unchanged(String call, Consumer<VersionTrans> refused) {
        VersionTrans x = Scene.withEveryState();
        VersionTrans twin = Scene.withEveryState();
        check.due(call + " throws", true, isThrown(x, refused));
        check.due("what is seen after " + call, Scene.picture(twin, OF_THE_SCENE), Scene.picture(x, OF_THE_SCENE));
        check.due("graphs noted after " + call, twin.note(2, 0), x.note(2, 0));
        check.due("the open one ends after " + call, twin.abort(2), x.abort(2));
        check.due("and then", Scene.picture(twin, OF_THE_SCENE), Scene.picture(x, OF_THE_SCENE));
    }

    private static boolean isThrown(VersionTrans x, Consumer<VersionTrans> refused) {
        try {
            refused.accept(x);
            return false;
        } catch (IllegalArgumentException | IllegalStateException e) {
            return true;
        }
    }

    private static void waitingWriteIsNotChanged() {
        check.sentence("Nothing is changed then: the write that waits");
        VersionTrans x = withWriters(3);
        x.put(0, 10, true);
        x.put(1, 10, true);
        x.put(2, 10, false);
        check.refused("another triple", () -> x.put(1, 11, true));
        check.refused("the same, otherwise", () -> x.put(1, 10, false));
        check.refused("commit", () -> x.commit(1));
        check.refused("note", () -> x.note(1, 0));
        x.abort(0);
        check.due("still the first", 0, x.state(1));
        check.due("with its write", true, x.read(1, 10));
        check.due("and no other", false, x.read(1, 11));
        check.due("the second behind it", 1, x.waits(2));
        check.due("own", 1, x.abort(1));
    }

    private static void refusedAtFullChangesNothing() {
        check.sentence("where there is no room for one more. Nothing is changed then");
        VersionTrans x = full();
        check.refused("begin", x::begin);
        check.refused("look", () -> x.look(0));
        check.due("what is seen", Scene.picture(full(), 0, 199), Scene.picture(x, 0, 199));
        check.due("the last one goes on", 0, x.commit(59));
        check.due("the first one goes on", 1, x.put(0, 0, true));
        check.due("and makes a version", 1, x.commit(0));
        check.refused("no room still", x::begin);
    }

    private static VersionTrans full() {
        VersionTrans x = withWriters(59);
        x.look(0);
        return x;
    }
}

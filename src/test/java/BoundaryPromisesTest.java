/**
 * What the promises 1 to 19 say at their boundaries: for each sentence (or part of one that can be
 * broken by itself) a test of its own, which bears the promise's number and its words.
 */
public final class BoundaryPromisesTest {
    private static final Check check = new Check();

    public static void main(String[] args) {
        check.run(BoundaryPromisesTest::newObject);
        check.run(BoundaryPromisesTest::beginSeesTheLatest);
        check.run(BoundaryPromisesTest::lookFromTheLeastKeptOn);
        check.run(BoundaryPromisesTest::lookBetweenKeptOnes);
        check.run(BoundaryPromisesTest::lookWhenFull);
        check.run(BoundaryPromisesTest::putDone);
        check.run(BoundaryPromisesTest::putWaits);
        check.run(BoundaryPromisesTest::putFailed);
        check.run(BoundaryPromisesTest::putAbortedByARing);
        check.run(BoundaryPromisesTest::putWhenAllIsDone);
        check.run(BoundaryPromisesTest::putOfWhatIsThereAlready);
        check.run(BoundaryPromisesTest::putRefused);
        check.run(BoundaryPromisesTest::noteCountsAGraphOnce);
        check.run(BoundaryPromisesTest::noteSeesRowsAboveAlone);
        check.run(BoundaryPromisesTest::noteSeesRowsThatTookEachOtherBack);
        check.run(BoundaryPromisesTest::noteOfOwnWritesIsNoMatter);
        check.run(BoundaryPromisesTest::noteOutlivesFree);
        check.run(BoundaryPromisesTest::noteRefused);
        check.run(BoundaryPromisesTest::readOwnElseSeen);
        check.run(BoundaryPromisesTest::readWhileWaitingOrFailed);
        check.run(BoundaryPromisesTest::readRefused);
        check.run(BoundaryPromisesTest::toldFromTheLeastKeptOn);
        check.run(BoundaryPromisesTest::commitOfOneThatChangesNothing);
        check.run(BoundaryPromisesTest::commitOfVersionZeroIsNotARefusal);
        check.run(BoundaryPromisesTest::commitOfOneThatChangesSomething);
        check.run(BoundaryPromisesTest::commitOfFailed);
        check.run(BoundaryPromisesTest::commitOfNotedGraph);
        check.run(BoundaryPromisesTest::commitOfOneThatWaits);
        check.run(BoundaryPromisesTest::commitRefused);
        check.run(BoundaryPromisesTest::abortLeavesNothing);
        check.run(BoundaryPromisesTest::abortOfOneThatWaitsOrFailed);
        check.run(BoundaryPromisesTest::abortCountsOwnWrites);
        check.run(BoundaryPromisesTest::abortRefused);
        check.run(BoundaryPromisesTest::pinFromTheLeastKeptOn);
        check.run(BoundaryPromisesTest::pinHowOften);
        check.run(BoundaryPromisesTest::unpinHowOften);
        check.run(BoundaryPromisesTest::unpinOfOneNotPinned);
        check.run(BoundaryPromisesTest::freeOfNothing);
        check.run(BoundaryPromisesTest::freeBelowTheGreatest);
        check.run(BoundaryPromisesTest::freeOfOneThatTellsNotThere);
        check.run(BoundaryPromisesTest::freeLeavesRowsAbove);
        check.run(BoundaryPromisesTest::freeGoesByTheLeastKept);
        check.run(BoundaryPromisesTest::rowsCount);
        check.run(BoundaryPromisesTest::latestGrowsByVersionsAlone);
        check.run(BoundaryPromisesTest::leastIsTheLeast);
        check.run(BoundaryPromisesTest::states);
        check.run(BoundaryPromisesTest::waitsForWhich);
        check.run(BoundaryPromisesTest::ringMembers);
        check.run(BoundaryPromisesTest::ringIsTheLatest);
        check.run(BoundaryPromisesTest::conflictsByTriple);
        check.run(BoundaryPromisesTest::conflictsByGraph);
        check.run(BoundaryPromisesTest::conflictsOfOneThatFailedAndNoted);
        check.run(BoundaryPromisesTest::conflictsOfNone);
        check.end();
    }

    private static VersionTrans withWriters(int count) {
        return Scene.withWriters(count);
    }

    private static int write(VersionTrans x, int triple, boolean there) {
        return Scene.write(x, triple, there);
    }

    private static void newObject() {
        check.sentence("1: Version 0 alone, no transactions");
        VersionTrans x = new VersionTrans();
        check.due("latest", 0, x.latest());
        check.due("least", 0, x.least());
        check.due("rows", 0, x.rows());
        check.due("free", 0, x.free());
        check.due("ring", -1, x.ring(0));
        check.unknown("state", () -> x.state(0));
        check.unknown("waits", () -> x.waits(0));
        check.unknown("commit", () -> x.commit(0));
        check.unknown("abort", () -> x.abort(0));
        check.unknown("version 1", () -> x.told(1, 0));
        check.unknown("not pinned", () -> x.unpin(0));
        for (int triple = 0; triple < 200; triple++) {
            check.due("no triple", false, x.told(0, triple));
            check.due("no conflicts", 0, x.conflicts(0, triple));
        }
        for (int graph = 0; graph < 4; graph++) {
            check.due("no conflicts", 0, x.conflicts(1, graph));
        }
        write(x, 0, true);
        check.due("each for itself", 0, new VersionTrans().latest());
    }

    private static void beginSeesTheLatest() {
        check.sentence("2: A writer begins, and sees the latest version: its number");
        VersionTrans x = new VersionTrans();
        for (int version = 0; version < 4; version++) {
            int number = x.begin();
            check.due("number", 2 * version, number);
            check.due("a writer", 1, x.note(number, 0));
            check.due("sees the latest", version > 0, x.read(number, version));
            check.due("and no more", false, x.read(number, version + 1));
            x.abort(number);
            write(x, version + 1, true);
        }
    }

    private static void lookFromTheLeastKeptOn() {
        check.sentence("3: one not below the least that is kept");
        VersionTrans x = new VersionTrans();
        write(x, 1, true);
        write(x, 2, true);
        x.pin(2);
        write(x, 3, true);
        check.due("least", 2, x.least());
        check.unknown("version 0", () -> x.look(0));
        check.unknown("one below the least", () -> x.look(1));
        check.due("the least", 3, x.look(2));
        check.due("the latest", 4, x.look(3));
        check.unknown("one above the latest", () -> x.look(4));
        check.due("sees it", false, x.read(3, 3));
        check.due("sees it", true, x.read(4, 3));
        check.refused("a reader", () -> x.put(3, 9, true));
    }

    private static void lookBetweenKeptOnes() {
        check.sentence("3: A reader begins that sees a version: not only a kept one");
        VersionTrans x = withWriters(1);
        write(x, 1, true);
        write(x, 1, false);
        int reader = x.look(1);
        check.due("between", true, x.read(reader, 1));
        x.abort(0);
        check.due("it keeps its version", 1, x.least());
    }

    private static void lookWhenFull() {
        check.sentence("3: no version before no room");
        VersionTrans x = withWriters(60);
        check.refused("no room", () -> x.look(0));
        check.unknown("no version", () -> x.look(1));
        check.unknown("no version", () -> x.look(-1));
    }

    private static void putDone() {
        check.sentence("4: 1 when it is done");
        VersionTrans x = withWriters(2);
        check.due("the first triple", 1, x.put(0, 0, true));
        check.due("the last triple", 1, x.put(1, 199, false));
        check.due("own again", 1, x.put(0, 0, false));
        check.due("open", 0, x.state(0));
    }

    private static void putWaits() {
        check.sentence("4: 0 when it waits");
        VersionTrans x = withWriters(2);
        x.put(0, 199, true);
        check.due("waits", 0, x.put(1, 199, true));
        check.due("state", 1, x.state(1));
    }

    private static void putFailed() {
        check.sentence("4: -1 when it has failed");
        VersionTrans x = withWriters(1);
        write(x, 199, true);
        check.due("failed", -1, x.put(0, 199, true));
        check.due("state", 2, x.state(0));
    }

    private static void putAbortedByARing() {
        check.sentence("4: -2 when it was aborted by a ring");
        VersionTrans x = withWriters(3);
        x.put(0, 0, true);
        x.put(1, 1, true);
        x.put(2, 2, true);
        x.put(0, 1, true);
        x.put(1, 2, true);
        check.due("aborted", -2, x.put(2, 0, true));
        check.due("state", 4, x.state(2));
        check.refused("it has ended", () -> x.put(2, 3, true));
    }

    private static void putWhenAllIsDone() {
        check.sentence("4: as it is when all is done that comes of it");
        VersionTrans x = withWriters(2);
        x.put(0, 0, true);
        x.put(1, 1, true);
        x.put(1, 0, true);
        check.due("the other was aborted: done", 1, x.put(0, 1, false));
        check.due("holds it", false, x.read(0, 1));
        check.due("own", 2, x.abort(0));

        VersionTrans y = withWriters(3);
        y.put(0, 0, true);
        y.put(2, 2, true);
        y.put(1, 2, true);
        y.put(2, 0, true);
        check.due("the other was aborted, a third was first: waits", 0, y.put(0, 2, true));
        check.due("for the third", 1, y.waits(0));
    }

    private static void putOfWhatIsThereAlready() {
        check.sentence("4: Also when the triple is there already, or not");
        VersionTrans x = new VersionTrans();
        write(x, 5, true);
        int one = x.begin();
        int other = x.begin();
        check.due("there already", 1, x.put(one, 5, true));
        check.due("not there already", 1, x.put(one, 6, false));
        check.due("held", 0, x.put(other, 5, true));
        check.due("own", 2, x.abort(one));
        check.due("the other", 0, x.state(other));
        check.due("held, too", 0, x.put(x.begin(), 5, false));
    }

    private static void putRefused() {
        check.sentence("4: refused");
        VersionTrans x = Scene.withEveryState();
        check.refused("committed", () -> x.put(0, 30, true));
        check.refused("aborted", () -> x.put(1, 30, true));
        check.refused("waits", () -> x.put(3, 30, true));
        check.refused("failed", () -> x.put(4, 30, true));
        check.refused("reader", () -> x.put(5, 30, true));
        check.refused("aborted by a ring", () -> x.put(7, 30, true));
        check.unknown("no such transaction", () -> x.put(9, 30, true));
        check.unknown("no such transaction", () -> x.put(-1, 30, true));
        check.unknown("no such triple", () -> x.put(2, 200, true));
        check.unknown("no such triple", () -> x.put(2, -1, false));
        check.due("an open writer", 1, x.put(2, 30, true));
    }

    private static void noteCountsAGraphOnce() {
        check.sentence("5: How many graphs it has noted");
        VersionTrans x = withWriters(2);
        for (int graph = 3; graph >= 0; graph--) {
            check.due("one more", 4 - graph, x.note(0, graph));
            check.due("again", 4 - graph, x.note(0, graph));
            check.due("the first again", 4 - graph, x.note(0, 3));
        }
        check.due("another one's", 1, x.note(1, 3));
    }

    private static void noteSeesRowsAboveAlone() {
        check.sentence("5: no version above the one that it sees may have a row of the graph");
        for (int triple : new int[] {49, 50, 99, 100}) {
            VersionTrans x = new VersionTrans();
            x.pin(0);
            write(x, 75, true);
            int one = x.begin();
            x.note(one, 1);
            x.put(one, 199, true);
            write(x, triple, true);
            boolean changed = triple / 50 == 1;
            check.due("a row of " + triple, changed ? 0 : 3, x.commit(one));
            check.due("state", changed ? 4 : 3, x.state(one));
        }
        VersionTrans y = withWriters(1);
        y.note(0, 1);
        write(y, 75, false);
        y.put(0, 199, true);
        check.due("a write that made no row", 1, y.commit(0));
    }

    private static void noteSeesRowsThatTookEachOtherBack() {
        check.sentence("5: may have a row of the graph: also one that was taken back");
        VersionTrans x = withWriters(1);
        write(x, 75, true);
        write(x, 75, false);
        check.due("noted when it has changed already", 1, x.note(0, 1));
        check.due("refused", 0, x.commit(0));
        check.due("aborted", 4, x.state(0));
    }

    private static void noteOfOwnWritesIsNoMatter() {
        check.sentence("5: no version above the one that it sees: its own is the next");
        VersionTrans x = withWriters(2);
        x.note(0, 1);
        x.put(0, 50, true);
        x.note(1, 1);
        x.put(1, 51, true);
        check.due("own writes, and those of one that has not committed", 1, x.commit(0));
        check.due("the other was later", 0, x.commit(1));
    }

    private static void noteOutlivesFree() {
        check.sentence("5: a row above is not lost by free");
        VersionTrans x = withWriters(1);
        x.note(0, 0);
        write(x, 0, true);
        write(x, 0, false);
        check.due("nothing to free", 0, x.free());
        check.due("refused", 0, x.commit(0));
        check.due("aborted", 4, x.state(0));
    }

    private static void noteRefused() {
        check.sentence("5: refused");
        VersionTrans x = Scene.withEveryState();
        check.refused("committed", () -> x.note(0, 1));
        check.refused("aborted", () -> x.note(1, 1));
        check.refused("waits", () -> x.note(3, 1));
        check.refused("failed", () -> x.note(4, 1));
        check.refused("reader", () -> x.note(5, 1));
        check.unknown("no such transaction", () -> x.note(9, 1));
        check.unknown("no such transaction", () -> x.note(-1, 1));
        check.unknown("no such graph", () -> x.note(2, 4));
        check.unknown("no such graph", () -> x.note(2, -1));
        check.due("an open writer", 3, x.note(2, 1));
    }

    private static void readOwnElseSeen() {
        check.sentence("6: as it wrote itself, else in the version that it sees");
        VersionTrans x = new VersionTrans();
        write(x, 0, true);
        int one = x.begin();
        int other = x.begin();
        x.put(one, 0, false);
        x.put(one, 199, true);
        check.due("own: not there", false, x.read(one, 0));
        check.due("own: there", true, x.read(one, 199));
        check.due("seen: there", true, x.read(other, 0));
        check.due("seen: not there", false, x.read(other, 199));
        x.commit(one);
        check.due("a later version is not seen", true, x.read(other, 0));
        check.due("a later version is not seen", false, x.read(other, 199));
    }

    private static void readWhileWaitingOrFailed() {
        check.sentence("6: Also for one that waits or has failed");
        VersionTrans x = Scene.withEveryState();
        check.due("waits: own", true, x.read(3, 13));
        check.due("waits: not with the write that waits", false, x.read(3, 10));
        check.due("waits: the version that it sees", false, x.read(3, 1));
        check.due("failed: own", true, x.read(4, 12));
        check.due("failed: the version that it sees", false, x.read(4, 1));
        VersionTrans y = new VersionTrans();
        write(y, 5, true);
        int holder = y.begin();
        int waiter = y.begin();
        y.put(holder, 5, false);
        y.put(waiter, 5, false);
        check.due("waits: there as it was", true, y.read(waiter, 5));
        y.commit(holder);
        check.due("failed: there as it was", true, y.read(waiter, 5));
    }

    private static void readRefused() {
        check.sentence("6: refused");
        VersionTrans x = Scene.withEveryState();
        check.refused("committed", () -> x.read(0, 1));
        check.refused("aborted", () -> x.read(1, 1));
        check.refused("aborted by a ring", () -> x.read(7, 1));
        check.refused("an ended reader", () -> x.read(8, 1));
        check.unknown("no such transaction", () -> x.read(9, 1));
        check.unknown("no such transaction", () -> x.read(-1, 1));
        check.unknown("no such triple", () -> x.read(5, 200));
        check.unknown("no such triple", () -> x.read(5, -1));
        check.due("a reader", false, x.read(5, 1));
    }

    private static void toldFromTheLeastKeptOn() {
        check.sentence("7: one not below the least kept");
        VersionTrans x = new VersionTrans();
        write(x, 1, true);
        write(x, 2, true);
        x.pin(2);
        write(x, 1, false);
        write(x, 2, false);
        check.unknown("version 0", () -> x.told(0, 1));
        check.unknown("one below", () -> x.told(1, 1));
        check.due("the least", true, x.told(2, 1));
        check.due("between", false, x.told(3, 1));
        check.due("between", true, x.told(3, 2));
        check.due("the latest", false, x.told(4, 2));
        check.unknown("one above", () -> x.told(5, 1));
        check.unknown("no such triple", () -> x.told(4, 200));
        check.unknown("no such triple", () -> x.told(4, -1));
    }

    private static void commitOfOneThatChangesNothing() {
        check.sentence("8: a reader, or a writer whose writes change nothing: the version that it sees");
        VersionTrans x = new VersionTrans();
        write(x, 5, true);
        int none = x.begin();
        int same = x.begin();
        int reader = x.look(1);
        x.put(same, 5, false);
        x.put(same, 5, true);
        x.put(same, 6, false);
        write(x, 7, true);
        check.due("no writes", 1, x.commit(none));
        check.due("writes that tell the same", 1, x.commit(same));
        check.due("a reader", 1, x.commit(reader));
        check.due("committed", 333, x.state(none) * 100 + x.state(same) * 10 + x.state(reader));
        check.due("no version", 2, x.latest());
        check.due("no rows", 2, x.rows());
    }

    private static void commitOfVersionZeroIsNotARefusal() {
        check.sentence("8: the version that it sees: 0");
        VersionTrans x = withWriters(2);
        int reader = x.look(0);
        x.put(1, 5, false);
        check.due("no writes", 0, x.commit(0));
        check.due("writes that tell the same", 0, x.commit(1));
        check.due("a reader", 0, x.commit(reader));
        check.due("committed", 333, x.state(0) * 100 + x.state(1) * 10 + x.state(reader));
    }

    private static void commitOfOneThatChangesSomething() {
        check.sentence("8: their rows are the next version, its number");
        VersionTrans x = new VersionTrans();
        write(x, 5, true);
        int one = x.begin();
        x.put(one, 5, true);
        x.put(one, 6, false);
        x.put(one, 199, true);
        write(x, 7, true);
        write(x, 8, true);
        check.due("the next to the latest, not to the one seen", 4, x.commit(one));
        check.due("a row of the change alone", 4, x.rows());
        check.due("told", true, x.told(4, 199) && x.told(4, 5) && x.told(4, 8) && !x.told(4, 6));
        check.due("latest", 4, x.latest());
    }

    private static void commitOfFailed() {
        check.sentence("8: 0 when it has failed: it is aborted");
        VersionTrans x = withWriters(1);
        x.put(0, 6, true);
        write(x, 5, true);
        x.put(0, 5, true);
        check.due("0", 0, x.commit(0));
        check.due("aborted", 4, x.state(0));
        check.due("no version", 1, x.latest());
        VersionTrans y = new VersionTrans();
        write(y, 4, true);
        int one = y.begin();
        write(y, 5, true);
        y.put(one, 5, true);
        check.due("0, not the version that it sees", 0, y.commit(one));
    }

    private static void commitOfNotedGraph() {
        check.sentence("8: 0 when a graph that it noted has changed: it is aborted");
        VersionTrans x = new VersionTrans();
        write(x, 5, true);
        int writes = x.begin();
        int none = x.begin();
        int waiter = x.begin();
        x.put(writes, 199, true);
        x.note(writes, 0);
        x.note(none, 0);
        x.put(waiter, 199, true);
        write(x, 6, true);
        check.due("with writes", 0, x.commit(writes));
        check.due("aborted", 4, x.state(writes));
        check.due("what it held is free", 0, x.state(waiter));
        check.due("without writes", 0, x.commit(none));
        check.due("aborted", 4, x.state(none));
        check.due("no version", 2, x.latest());
    }

    private static void commitOfOneThatWaits() {
        check.sentence("8: A transaction that waits can't");
        VersionTrans x = withWriters(2);
        x.put(0, 5, true);
        x.put(1, 6, true);
        x.put(1, 5, true);
        check.refused("waits", () -> x.commit(1));
        check.due("waits on", 0, x.waits(1));
        x.abort(0);
        check.due("then it can", 1, x.commit(1));
        check.due("with both", 2, x.rows());
    }

    private static void commitRefused() {
        check.sentence("8: refused");
        VersionTrans x = Scene.withEveryState();
        for (int ended : new int[] {0, 1, 6, 7, 8}) {
            check.refused("ended " + ended, () -> x.commit(ended));
        }
        check.unknown("no such transaction", () -> x.commit(9));
        check.unknown("no such transaction", () -> x.commit(-1));
        check.due("a failed one can", 0, x.commit(4));
        check.due("a reader can", 0, x.commit(5));
        check.due("an open one can", 3, write(x, 30, true));
    }

    private static void abortLeavesNothing() {
        check.sentence("9: A transaction ends, and leaves nothing");
        VersionTrans x = withWriters(2);
        x.note(0, 0);
        x.put(0, 5, true);
        check.due("abort", 1, x.abort(0));
        check.due("aborted", 4, x.state(0));
        check.due("no row", 0, x.rows());
        check.due("no version", 0, x.latest());
        check.due("not held", 1, x.put(1, 5, false));
        check.due("not there", false, x.told(0, 5));
        int reader = x.look(0);
        write(x, 8, true);
        x.abort(1);
        check.due("kept by the reader", 0, x.least());
        check.due("a reader", 0, x.abort(reader));
        check.due("aborted", 4, x.state(reader));
        check.due("not kept", 1, x.least());
    }

    private static void abortOfOneThatWaitsOrFailed() {
        check.sentence("9: also one that waits or has failed");
        VersionTrans x = Scene.withEveryState();
        check.due("waits", 1, x.abort(3));
        check.due("aborted", 4, x.state(3));
        check.due("waits no more", -1, x.waits(3));
        check.due("failed", 1, x.abort(4));
        check.due("aborted", 4, x.state(4));
        check.due("nothing of them is held", 1, x.put(2, 13, true));
        check.due("nothing of them is held", 1, x.put(2, 12, true));
    }

    private static void abortCountsOwnWrites() {
        check.sentence("9: how many writes of its own it had");
        VersionTrans x = withWriters(4);
        check.due("none", 0, x.abort(0));
        for (int triple = 0; triple < 200; triple++) {
            x.put(1, triple, triple % 2 == 0);
        }
        x.put(1, 0, false);
        check.due("all triples, those that change nothing, too", 200, x.abort(1));
        x.put(2, 5, true);
        x.put(3, 6, true);
        x.put(3, 5, true);
        check.due("not the write that waits", 1, x.abort(3));
    }

    private static void abortRefused() {
        check.sentence("9: refused");
        VersionTrans x = Scene.withEveryState();
        for (int ended : new int[] {0, 1, 6, 7, 8}) {
            check.refused("ended " + ended, () -> x.abort(ended));
        }
        check.unknown("no such transaction", () -> x.abort(9));
        check.unknown("no such transaction", () -> x.abort(-1));
    }

    private static void pinFromTheLeastKeptOn() {
        check.sentence("10: A version, one not below the least kept, is pinned");
        VersionTrans x = withWriters(1);
        write(x, 1, true);
        write(x, 2, true);
        check.due("between kept ones", 1, x.pin(1));
        x.abort(0);
        check.due("least", 1, x.least());
        check.unknown("below the least", () -> x.pin(0));
        check.due("the least", 2, x.pin(1));
        check.due("the latest", 1, x.pin(2));
        check.unknown("above the latest", () -> x.pin(3));
        for (int never : Scene.NEVER) {
            check.unknown("none such", () -> x.pin(never));
        }
    }

    private static void pinHowOften() {
        check.sentence("10: once more: how often");
        VersionTrans x = new VersionTrans();
        check.due("once", 1, x.pin(0));
        check.due("twice", 2, x.pin(0));
        write(x, 1, true);
        check.due("another version", 1, x.pin(1));
        check.due("three times", 3, x.pin(0));
        x.unpin(0);
        check.due("three times again", 3, x.pin(0));
        VersionTrans y = new VersionTrans();
        for (int version = 1; version <= 60; version++) {
            write(y, version, true);
        }
        check.due("the last version that can be", 1, y.pin(60));
    }

    private static void unpinHowOften() {
        check.sentence("11: It is pinned once less: how often");
        VersionTrans x = new VersionTrans();
        for (int i = 0; i < 150; i++) {
            x.pin(0);
        }
        write(x, 1, true);
        x.pin(1);
        for (int i = 149; i >= 0; i--) {
            check.due("kept", 0, x.least());
            check.due("once less", i, x.unpin(0));
        }
        check.due("not kept", 1, x.least());
        check.due("another version", 0, x.unpin(1));
    }

    private static void unpinOfOneNotPinned() {
        check.sentence("11: A version that is not pinned is none here");
        VersionTrans x = withWriters(1);
        check.unknown("never pinned", () -> x.unpin(0));
        x.pin(0);
        x.unpin(0);
        check.unknown("no more pinned, but kept", () -> x.unpin(0));
        write(x, 1, true);
        check.unknown("the latest", () -> x.unpin(1));
        check.unknown("above the latest", () -> x.unpin(2));
        x.abort(0);
        check.unknown("below the least", () -> x.unpin(0));
        for (int none : new int[] {59, 60, 61, 62}) {
            check.unknown("none such", () -> x.unpin(none));
        }
        for (int never : Scene.NEVER) {
            check.unknown("none such", () -> x.unpin(never));
        }
        check.due("not pinned by that", 1, x.pin(1));
    }

    private static void freeOfNothing() {
        check.sentence("12: How many: none");
        VersionTrans x = new VersionTrans();
        check.due("no rows", 0, x.free());
        write(x, 0, true);
        write(x, 199, true);
        check.due("all are needed", 0, x.free());
        check.due("rows", 2, x.rows());
        check.due("told", true, x.told(2, 0) && x.told(2, 199));
    }

    private static void freeBelowTheGreatest() {
        check.sentence("12: of each triple those below the greatest one not above that version");
        VersionTrans x = new VersionTrans();
        for (int triple : new int[] {0, 199}) {
            write(x, triple, true);
            write(x, triple, false);
            write(x, triple, true);
        }
        check.due("two of each", 4, x.free());
        check.due("one of each", 2, x.rows());
        check.due("told", true, x.told(6, 0) && x.told(6, 199));
        check.due("once", 0, x.free());
    }

    private static void freeOfOneThatTellsNotThere() {
        check.sentence("12: and this one, too, if it tells that it is not there");
        VersionTrans x = new VersionTrans();
        write(x, 0, true);
        write(x, 199, true);
        write(x, 0, false);
        check.due("both of 0", 2, x.free());
        check.due("that of 199", 1, x.rows());
        check.due("not there", false, x.told(3, 0));
        check.due("there", true, x.told(3, 199));
        x.pin(3);
        write(x, 0, true);
        write(x, 0, false);
        x.pin(5);
        x.unpin(3);
        write(x, 0, true);
        check.due("also with a row above", 2, x.free());
        check.due("at the least kept", false, x.told(5, 0));
        check.due("above", true, x.told(6, 0));
        check.due("left", 2, x.rows());
    }

    private static void freeLeavesRowsAbove() {
        check.sentence("12: Rows are dropped that no version from the least kept one on needs");
        VersionTrans x = new VersionTrans();
        write(x, 0, true);
        write(x, 0, false);
        write(x, 0, true);
        x.pin(3);
        write(x, 0, false);
        write(x, 0, true);
        write(x, 0, false);
        check.due("the two below", 2, x.free());
        for (int version = 3; version <= 6; version++) {
            check.due("version " + version, version % 2 == 1, x.told(version, 0));
        }
        check.due("left", 4, x.rows());
    }

    private static void freeGoesByTheLeastKept() {
        check.sentence("12: from the least kept one on");
        VersionTrans x = withWriters(1);
        write(x, 0, true);
        int second = x.begin();
        write(x, 0, false);
        check.due("a writer sees version 0", 0, x.free());
        x.abort(0);
        check.due("a writer sees version 1: its row tells that it is there", 0, x.free());
        check.due("it is read", true, x.read(second, 0));
        check.due("a row above is still known", -1, x.put(second, 0, true));
        check.due("a failed one sees version 1", 0, x.free());
        x.commit(second);
        check.due("none", 2, x.free());
    }

    private static void rowsCount() {
        check.sentence("13: How many rows there are");
        VersionTrans x = withWriters(1);
        check.due("none", 0, x.rows());
        for (int triple = 0; triple < 200; triple++) {
            x.put(0, triple, true);
        }
        check.due("own writes are none", 0, x.rows());
        x.commit(0);
        check.due("one for each triple", 200, x.rows());
        write(x, 0, false);
        check.due("one that tells that it is not there", 201, x.rows());
        write(x, 0, false);
        check.due("not for what tells the same", 201, x.rows());
        check.due("dropped", 2, x.free());
        check.due("left", 199, x.rows());
    }

    private static void latestGrowsByVersionsAlone() {
        check.sentence("14: The latest version");
        VersionTrans x = withWriters(1);
        check.due("new", 0, x.latest());
        x.put(0, 0, true);
        check.due("own writes make none", 0, x.latest());
        x.commit(0);
        check.due("a commit", 1, x.latest());
        x.commit(x.begin());
        check.due("one that changes nothing", 1, x.latest());
        x.abort(x.begin());
        check.due("an abort", 1, x.latest());
        x.commit(x.look(1));
        check.due("a reader", 1, x.latest());
        write(x, 0, false);
        x.free();
        check.due("no rows", 0, x.rows());
        check.due("free takes none back", 2, x.latest());
        for (int version = 3; version <= 57; version++) {
            check.due("made", version, write(x, 0, version % 2 == 1));
            check.due("latest", version, x.latest());
        }
    }

    private static void leastIsTheLeast() {
        check.sentence("15: The least version that is kept");
        VersionTrans x = new VersionTrans();
        check.due("new", 0, x.least());
        x.pin(0);
        write(x, 0, true);
        int reader = x.look(1);
        write(x, 1, true);
        int writer = x.begin();
        write(x, 2, true);
        check.due("pinned", 0, x.least());
        x.unpin(0);
        check.due("a reader's", 1, x.least());
        x.pin(2);
        x.commit(reader);
        check.due("a writer's, and pinned", 2, x.least());
        x.unpin(2);
        check.due("a writer's", 2, x.least());
        x.commit(writer);
        check.due("the latest", 3, x.least());
    }

    private static void states() {
        check.sentence("16: 0 open, 1 waits, 2 has failed, 3 committed, 4 aborted");
        VersionTrans x = Scene.withEveryState();
        int[] due = {3, 4, 0, 1, 2, 0, 3, 4, 3};
        for (int number = 0; number < due.length; number++) {
            check.due("of " + number, due[number], x.state(number));
        }
        check.unknown("none such", () -> x.state(9));
        for (int never : Scene.NEVER) {
            check.unknown("none such", () -> x.state(never));
        }
    }

    private static void waitsForWhich() {
        check.sentence("17: For which it waits; -1 when it does not");
        VersionTrans x = Scene.withEveryState();
        int[] due = {-1, -1, -1, 2, -1, -1, -1, -1, -1};
        for (int number = 0; number < due.length; number++) {
            check.due("of " + number, due[number], x.waits(number));
        }
        check.unknown("none such", () -> x.waits(9));
        for (int never : Scene.NEVER) {
            check.unknown("none such", () -> x.waits(never));
        }
        VersionTrans y = withWriters(2);
        y.put(0, 0, true);
        y.put(1, 0, true);
        check.due("for number 0", 0, y.waits(1));
        y.abort(1);
        check.due("aborted", -1, y.waits(1));
    }

    private static void ringMembers() {
        check.sentence("18: Member i (from 0, by their numbers); -1 when there is none such");
        VersionTrans x = withWriters(4);
        check.due("no ring", -1, x.ring(0));
        for (int number = 0; number < 4; number++) {
            x.put(number, number, true);
        }
        x.put(3, 1, true);
        x.put(1, 2, true);
        check.due("no ring yet", -1, x.ring(0));
        x.put(2, 3, true);
        check.due("the first", 1, x.ring(0));
        check.due("the second", 2, x.ring(1));
        check.due("the last", 3, x.ring(2));
        check.due("no more", -1, x.ring(3));
        for (int never : Scene.NEVER) {
            check.due("none such: " + never, -1, x.ring(never));
        }
        for (int i = 59; i <= 61; i++) {
            check.due("none such: " + i, -1, x.ring(i));
        }
    }

    private static void ringIsTheLatest() {
        check.sentence("18: of the latest ring");
        VersionTrans x = withWriters(5);
        for (int number = 0; number < 5; number++) {
            x.put(number, number, true);
        }
        x.put(0, 1, true);
        x.put(1, 2, true);
        x.put(2, 0, true);
        check.due("three", 12, x.ring(0) * 100 + x.ring(1) * 10 + x.ring(2));
        x.commit(1);
        x.abort(0);
        check.due("ends leave it", 12, x.ring(0) * 100 + x.ring(1) * 10 + x.ring(2));
        x.put(4, 3, true);
        check.due("waiting leaves it", 0, x.ring(0));
        x.put(3, 4, true);
        check.due("the first", 3, x.ring(0));
        check.due("the second", 4, x.ring(1));
        check.due("a shorter one", -1, x.ring(2));
    }

    private static void conflictsByTriple() {
        check.sentence("19: How many writers failed by a triple (kind = 0) so far");
        VersionTrans x = withWriters(5);
        x.put(0, 199, true);
        x.put(1, 199, true);
        check.due("waiting is no failing", 0, x.conflicts(0, 199));
        x.commit(0);
        check.due("when tried again", 1, x.conflicts(0, 199));
        x.put(2, 199, true);
        check.due("at once", 2, x.conflicts(0, 199));
        write(x, 0, true);
        x.put(3, 0, true);
        check.due("the first triple", 1, x.conflicts(0, 0));
        check.due("the last triple", 2, x.conflicts(0, 199));
        x.commit(1);
        x.abort(2);
        check.due("ends leave it", 2, x.conflicts(0, 199));
        check.due("no graph is counted", 0, x.conflicts(1, 3));
        check.due("another triple", 0, x.conflicts(0, 198));
    }

    private static void conflictsByGraph() {
        check.sentence("19: refused at commit for a graph (1; for the least one that had changed)");
        VersionTrans x = withWriters(4);
        for (int number = 0; number < 3; number++) {
            for (int graph = 3; graph >= 0; graph--) {
                x.note(number, graph);
            }
        }
        write(x, 199, true);
        check.due("refused", 0, x.commit(0));
        check.due("the only one that changed", 1, x.conflicts(1, 3));
        write(x, 99, true);
        check.due("refused", 0, x.commit(1));
        check.due("the least that changed", 1, x.conflicts(1, 1));
        check.due("not the greater one", 1, x.conflicts(1, 3));
        check.due("not one that did not", 0, x.conflicts(1, 0) + x.conflicts(1, 2));
        x.abort(2);
        check.due("an abort is no refusal", 1, x.conflicts(1, 1));
        write(x, 0, true);
        check.due("nothing noted", 0, x.commit(3));
        check.due("no refusal", 0, x.conflicts(1, 0));
        check.due("no triple is counted", 0, x.conflicts(0, 99) + x.conflicts(0, 199));
    }

    private static void conflictsOfOneThatFailedAndNoted() {
        check.sentence("19: failed by a triple, or refused for a graph: not both");
        VersionTrans x = withWriters(1);
        x.note(0, 3);
        write(x, 199, true);
        check.due("fails", -1, x.put(0, 199, true));
        check.due("commit", 0, x.commit(0));
        check.due("by the triple", 1, x.conflicts(0, 199));
        check.due("not for the graph", 0, x.conflicts(1, 3));
    }

    private static void conflictsOfNone() {
        check.sentence("19: refused");
        VersionTrans x = new VersionTrans();
        check.due("the first triple", 0, x.conflicts(0, 0));
        check.due("the last triple", 0, x.conflicts(0, 199));
        check.due("the first graph", 0, x.conflicts(1, 0));
        check.due("the last graph", 0, x.conflicts(1, 3));
        check.unknown("triple 200", () -> x.conflicts(0, 200));
        check.unknown("graph 4", () -> x.conflicts(1, 4));
        check.unknown("a triple's number for a graph", () -> x.conflicts(1, 199));
        check.unknown("kind 2", () -> x.conflicts(2, 0));
        for (int never : Scene.NEVER) {
            check.unknown("triple", () -> x.conflicts(0, never));
            check.unknown("graph", () -> x.conflicts(1, never));
            check.unknown("kind", () -> x.conflicts(never, 0));
        }
    }
}

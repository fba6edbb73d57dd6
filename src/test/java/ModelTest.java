import java.util.Random;
import java.util.function.IntSupplier;

/** Long random runs of calls (the seeds are fixed): every answer must be the one of Model. */
public final class ModelTest {
    private static final int RUNS = 400;
    private static final int CALLS = 512;
    private static final int IAE = Integer.MIN_VALUE;
    private static final int ISE = Integer.MIN_VALUE + 1;

    private final Check check;
    private final Random random;
    private final int run;
    private final int triples;
    private final int endsInHundred;
    private final VersionTrans x = new VersionTrans();
    private final Model model = new Model();
    private final int[] triplesInUse;
    private int begun = 0;

    private ModelTest(Check check, int run) {
        this.check = check;
        this.run = run;
        random = new Random(run);
        triples = 1 + random.nextInt(run % 4 == 0 ? 40 : 8);
        endsInHundred = 3 + random.nextInt(20);
        triplesInUse = new int[triples];
        for (int i = 0; i < triples; i++) {
            triplesInUse[i] = random.nextInt(200);
        }
    }

    public static void main(String[] args) {
        Check check = new Check();
        for (int run = 0; run < RUNS && check.wrongSoFar() == 0; run++) {
            new ModelTest(check, run).play();
        }
        check.end();
    }

    private static int answer(IntSupplier call) {
        try {
            return call.getAsInt();
        } catch (IllegalArgumentException e) {
            return IAE;
        } catch (IllegalStateException e) {
            return ISE;
        }
    }

    private void same(String call, IntSupplier ofModel, IntSupplier ofClass) {
        check.due("run " + run + ": " + call, answer(ofModel), answer(ofClass));
    }

    private void play() {
        for (int i = 0; i < CALLS && check.wrongSoFar() == 0; i++) {
            change();
            if (i % 32 == 31) {
                compareAll();
            }
        }
    }

    /** Half of the runs keep to young transactions, so that old versions are given up. */
    private int party() {
        if (run % 2 == 0 && random.nextInt(4) > 0) {
            return Math.max(0, begun - 1 - random.nextInt(4));
        }
        return random.nextInt(40) == 0 ? random.nextInt(64) - 2 : random.nextInt(begun + 1) - random.nextInt(2);
    }

    private int triple() {
        return random.nextInt(60) == 0 ? random.nextInt(206) - 3 : triplesInUse[random.nextInt(triples)];
    }

    private int version() {
        return random.nextInt(model.latest() + 3) - 1;
    }

    private void change() {
        int kind = random.nextInt(100);
        if (begun < 60 && kind < 14 || kind == 0) {
            if (run % 2 == 0) {
                endOldOnes();
            }
            same("begin()", model::begin, x::begin);
            begun = Math.min(60, begun + 1);
        } else if (kind < 18) {
            int version = version();
            same("look(" + version + ")", () -> {
                int number = model.look(version);
                begun = number + 1;
                return number;
            }, () -> x.look(version));
        } else if (kind < 18 + endsInHundred) {
            endOne();
        } else if (kind < 18 + endsInHundred + 4) {
            int party = party();
            int graph = random.nextInt(6) - 1;
            same("note(" + party + ", " + graph + ")", () -> model.note(party, graph), () -> x.note(party, graph));
        } else if (kind < 18 + endsInHundred + 8) {
            pinOrFree();
        } else {
            int party = party();
            int triple = triple();
            boolean there = random.nextInt(3) > 0;
            same("put(" + party + ", " + triple + ", " + there + ")",
                    () -> model.put(party, triple, there), () -> x.put(party, triple, there));
        }
    }

    private void endOldOnes() {
        for (int old = 0; old < begun - 4; old++) {
            if (model.state(old) < 3) {
                int party = old;
                same("abort(" + party + ")", () -> model.abort(party), () -> x.abort(party));
            }
        }
    }

    private void endOne() {
        int party = party();
        if (random.nextInt(3) > 0) {
            same("commit(" + party + ")", () -> model.commit(party), () -> x.commit(party));
        } else {
            same("abort(" + party + ")", () -> model.abort(party), () -> x.abort(party));
        }
    }

    private void pinOrFree() {
        int version = version();
        int kind = random.nextInt(8);
        if (kind < 2) {
            same("pin(" + version + ")", () -> model.pin(version), () -> x.pin(version));
        } else if (kind < 4) {
            same("unpin(" + version + ")", () -> model.unpin(version), () -> x.unpin(version));
        } else {
            same("free()", model::free, x::free);
        }
    }

    private void compareAll() {
        same("rows()", model::rows, x::rows);
        same("latest()", model::latest, x::latest);
        same("least()", model::least, x::least);
        for (int i = -1; i <= 61; i++) {
            int n = i;
            same("state(" + n + ")", () -> model.state(n), () -> x.state(n));
            same("waits(" + n + ")", () -> model.waits(n), () -> x.waits(n));
            same("ring(" + n + ")", () -> model.ring(n), () -> x.ring(n));
            same("conflicts(1, " + n + ")", () -> model.conflicts(1, n), () -> x.conflicts(1, n));
            for (int triple : triplesInUse) {
                same("read(" + n + ", " + triple + ")",
                        () -> model.read(n, triple) ? 1 : 0, () -> x.read(n, triple) ? 1 : 0);
                same("told(" + n + ", " + triple + ")",
                        () -> model.told(n, triple) ? 1 : 0, () -> x.told(n, triple) ? 1 : 0);
            }
        }
        for (int i = 0; i < triples; i++) {
            int triple = triplesInUse[i];
            same("conflicts(0, " + triple + ")", () -> model.conflicts(0, triple), () -> x.conflicts(0, triple));
        }
    }
}

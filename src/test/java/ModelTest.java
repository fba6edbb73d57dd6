import java.util.Random;
import java.util.function.IntSupplier;

/**
 * Random runs of calls (the seeds are fixed), as long as the document lets an object be used: every
 * answer must be the one of Model.
 */
public final class ModelTest {
    private static final int RUNS = 3000;
    private static final int CALLS = 512;
    private static final int IAE = Integer.MIN_VALUE;
    private static final int ISE = Integer.MIN_VALUE + 1;

    private final Check check;
    private final Random random;
    private final int run;
    private final int triples;
    private final int endsInHundred;
    private final int notesInHundred;
    private final VersionTrans x = new VersionTrans();
    private final Model model = new Model();
    private final int[] triplesInUse;
    private int begun = 0;
    private int calls = 0;

    private ModelTest(Check check, int run) {
        this.check = check;
        this.run = run;
        random = new Random(run);
        triples = 1 + random.nextInt(run % 4 == 0 ? 40 : 8);
        endsInHundred = 3 + random.nextInt(20);
        notesInHundred = run % 5 == 0 ? 20 : 4;
        triplesInUse = new int[triples];
        for (int i = 0; i < triples; i++) {
            triplesInUse[i] = random.nextInt(200);
        }
    }

    public static void main(String[] args) {
        Check check = new Check();
        for (int run = 0; run < RUNS && check.wrongSoFar() == 0; run++) {
            new ModelTest(check, run).play();
        }
        check.end();
    }

    private static int answer(IntSupplier call) {
        try {
            return call.getAsInt();
        } catch (IllegalArgumentException e) {
            return IAE;
        } catch (IllegalStateException e) {
            return ISE;
        }
    }

    private void same(String call, IntSupplier ofModel, IntSupplier ofClass) {
        if (calls >= CALLS) {
            return;
        }
        calls++;
        check.due("run " + run + ": " + call, answer(ofModel), answer(ofClass));
    }

    private void play() {
        while (calls < CALLS && check.wrongSoFar() == 0) {
            if (random.nextInt(100) < 60) {
                change();
            } else {
                ask(random.nextInt(10));
            }
        }
    }

    /** Half of the runs keep to young transactions, so that old versions are given up. */
    private int party() {
        if (run % 2 == 0 && random.nextInt(4) > 0) {
            return Math.max(0, begun - 1 - random.nextInt(4));
        }
        return random.nextInt(40) == 0 ? random.nextInt(64) - 2 : random.nextInt(begun + 1) - random.nextInt(2);
    }

    private int triple() {
        return random.nextInt(60) == 0 ? random.nextInt(206) - 3 : triplesInUse[random.nextInt(triples)];
    }

    private int version() {
        return random.nextInt(model.latest() + 3) - 1;
    }

    private void change() {
        int kind = random.nextInt(100);
        if (begun < 60 && kind < 14 || kind == 0) {
            if (run % 2 == 0) {
                endOldOnes();
            }
            same("begin()", model::begin, x::begin);
            begun = Math.min(60, begun + 1);
        } else if (kind < 18) {
            int version = version();
            same("look(" + version + ")", () -> {
                int number = model.look(version);
                begun = number + 1;
                return number;
            }, () -> x.look(version));
        } else if (kind < 18 + endsInHundred) {
            endOne();
        } else if (kind < 18 + endsInHundred + notesInHundred) {
            int party = party();
            int graph = random.nextInt(6) - 1;
            same("note(" + party + ", " + graph + ")", () -> model.note(party, graph), () -> x.note(party, graph));
        } else if (kind < 18 + endsInHundred + notesInHundred + 4) {
            pinOrFree();
        } else {
            int party = party();
            int triple = triple();
            boolean there = random.nextInt(3) > 0;
            same("put(" + party + ", " + triple + ", " + there + ")",
                    () -> model.put(party, triple, there), () -> x.put(party, triple, there));
        }
    }

    private void endOldOnes() {
        for (int old = 0; old < begun - 4; old++) {
            if (model.state(old) < 3) {
                int party = old;
                same("abort(" + party + ")", () -> model.abort(party), () -> x.abort(party));
            }
        }
    }

    private void endOne() {
        int party = party();
        if (random.nextInt(3) > 0) {
            same("commit(" + party + ")", () -> model.commit(party), () -> x.commit(party));
        } else {
            same("abort(" + party + ")", () -> model.abort(party), () -> x.abort(party));
        }
    }

    private void pinOrFree() {
        int version = version();
        int kind = random.nextInt(8);
        if (kind < 2) {
            same("pin(" + version + ")", () -> model.pin(version), () -> x.pin(version));
        } else if (kind < 4) {
            same("unpin(" + version + ")", () -> model.unpin(version), () -> x.unpin(version));
        } else {
            same("free()", model::free, x::free);
        }
    }

    private void ask(int kind) {
        int party = party();
        int triple = triple();
        int version = version();
        int i = random.nextInt(8) - 1;
        switch (kind) {
            case 0 -> same("rows()", model::rows, x::rows);
            case 1 -> same("latest()", model::latest, x::latest);
            case 2 -> same("least()", model::least, x::least);
            case 3 -> same("state(" + party + ")", () -> model.state(party), () -> x.state(party));
            case 4 -> same("waits(" + party + ")", () -> model.waits(party), () -> x.waits(party));
            case 5 -> same("ring(" + i + ")", () -> model.ring(i), () -> x.ring(i));
            case 6 -> same("conflicts(0, " + triple + ")",
                    () -> model.conflicts(0, triple), () -> x.conflicts(0, triple));
            case 7 -> same("conflicts(1, " + i + ")", () -> model.conflicts(1, i), () -> x.conflicts(1, i));
            case 8 -> same("read(" + party + ", " + triple + ")",
                    () -> model.read(party, triple) ? 1 : 0, () -> x.read(party, triple) ? 1 : 0);
            default -> same("told(" + version + ", " + triple + ")",
                    () -> model.told(version, triple) ? 1 : 0, () -> x.told(version, triple) ? 1 : 0);
        }
    }
}

import java.util.ArrayDeque;
import java.util.ArrayList;
import java.util.List;
import java.util.TreeMap;
import java.util.TreeSet;

/**
 * The document once more, as slowly and plainly as it can be told: every writer has a map of its
 * own writes, all rows stand in one list, and those that wait stand in one line by when they began.
 */
final class Model {
    record Row(int triple, int version, boolean there) {}

    static final class Party {
        boolean writer;
        int sees;
        int state;
        int waitsFor = -1;
        int triple;
        boolean there;
        final TreeMap<Integer, Boolean> own = new TreeMap<>();
        final TreeSet<Integer> graphs = new TreeSet<>();
    }

    private final List<Party> parties = new ArrayList<>();
    private List<Row> rows = new ArrayList<>();
    private int latest = 0;
    private final TreeMap<Integer, Integer> pins = new TreeMap<>();
    private final TreeMap<Integer, Integer> failures = new TreeMap<>();
    private final TreeMap<Integer, Integer> refusals = new TreeMap<>();
    private TreeSet<Integer> ring = new TreeSet<>();
    private final List<Integer> line = new ArrayList<>();
    private final ArrayDeque<Integer> queue = new ArrayDeque<>();

    private static void argument(boolean ok) {
        if (!ok) {
            throw new IllegalArgumentException();
        }
    }

    private static void standing(boolean ok) {
        if (!ok) {
            throw new IllegalStateException();
        }
    }

    private Party party(int number) {
        argument(number >= 0 && number < parties.size());
        return parties.get(number);
    }

    private boolean tells(int version, int triple) {
        int best = -1;
        boolean there = false;
        for (Row row : rows) {
            if (row.triple() == triple && row.version() <= version && row.version() > best) {
                best = row.version();
                there = row.there();
            }
        }
        return there;
    }

    private boolean rowAbove(int version, int firstTriple, int lastTriple) {
        return rows.stream().anyMatch(row -> row.version() > version
                && row.triple() >= firstTriple && row.triple() <= lastTriple);
    }

    private int enter(boolean writer, int version) {
        standing(parties.size() < 60);
        Party party = new Party();
        party.writer = writer;
        party.sees = version;
        parties.add(party);
        return parties.size() - 1;
    }

    int begin() {
        return enter(true, latest);
    }

    int look(int version) {
        argument(version >= least() && version <= latest);
        return enter(false, version);
    }

    private void attempt(int number, int triple, boolean there) {
        Party party = parties.get(number);
        party.state = 0;
        party.waitsFor = -1;
        line.remove((Object) number);
        if (rowAbove(party.sees, triple, triple)) {
            party.state = 2;
            failures.merge(triple, 1, Integer::sum);
            return;
        }
        for (int other = 0; other < parties.size(); other++) {
            if (other != number && parties.get(other).own.containsKey(triple)) {
                party.state = 1;
                party.waitsFor = other;
                party.triple = triple;
                party.there = there;
                line.add(number);
                breakRing(number);
                return;
            }
        }
        party.own.put(triple, there);
    }

    private void breakRing(int number) {
        TreeSet<Integer> way = new TreeSet<>();
        int at = number;
        while (parties.get(at).state == 1 && way.add(at)) {
            at = parties.get(at).waitsFor;
        }
        if (parties.get(at).state == 1 && at == number) {
            ring = way;
            close(way.last(), 4);
        }
    }

    private void close(int number, int state) {
        Party party = parties.get(number);
        party.state = state;
        party.waitsFor = -1;
        party.own.clear();
        line.remove((Object) number);
        for (int waiter : line) {
            if (parties.get(waiter).waitsFor == number) {
                queue.addLast(waiter);
            }
        }
    }

    private void settle() {
        while (!queue.isEmpty()) {
            int number = queue.removeFirst();
            Party party = parties.get(number);
            if (party.state == 1) {
                attempt(number, party.triple, party.there);
            }
        }
    }

    int put(int number, int triple, boolean there) {
        Party party = party(number);
        argument(triple >= 0 && triple < 200);
        standing(party.writer && party.state == 0);
        attempt(number, triple, there);
        settle();
        return switch (party.state) {
            case 0 -> 1;
            case 1 -> 0;
            case 2 -> -1;
            default -> -2;
        };
    }

    int note(int number, int graph) {
        Party party = party(number);
        argument(graph >= 0 && graph < 4);
        standing(party.writer && party.state == 0);
        party.graphs.add(graph);
        return party.graphs.size();
    }

    boolean read(int number, int triple) {
        Party party = party(number);
        argument(triple >= 0 && triple < 200);
        standing(party.state < 3);
        Boolean own = party.own.get(triple);
        return own != null ? own : tells(party.sees, triple);
    }

    boolean told(int version, int triple) {
        argument(version >= least() && version <= latest);
        argument(triple >= 0 && triple < 200);
        return tells(version, triple);
    }

    int commit(int number) {
        Party party = party(number);
        standing(party.state == 0 || party.state == 2);
        int answer = 0;
        boolean refused = party.state == 2;
        for (int graph : party.graphs) {
            if (!refused && rowAbove(party.sees, graph * 50, graph * 50 + 49)) {
                refusals.merge(graph, 1, Integer::sum);
                refused = true;
            }
        }
        if (!refused) {
            List<Row> changes = new ArrayList<>();
            party.own.forEach((triple, there) -> {
                if (there != tells(party.sees, triple)) {
                    changes.add(new Row(triple, latest + 1, there));
                }
            });
            rows.addAll(changes);
            answer = changes.isEmpty() ? party.sees : ++latest;
        }
        close(number, refused ? 4 : 3);
        settle();
        return answer;
    }

    int abort(int number) {
        Party party = party(number);
        standing(party.state < 3);
        int had = party.own.size();
        close(number, 4);
        settle();
        return had;
    }

    int pin(int version) {
        argument(version >= least() && version <= latest);
        return pins.merge(version, 1, Integer::sum);
    }

    int unpin(int version) {
        argument(pins.getOrDefault(version, 0) > 0);
        return pins.merge(version, -1, Integer::sum);
    }

    int free() {
        int kept = least();
        List<Row> left = new ArrayList<>();
        for (Row row : rows) {
            boolean greatest = rows.stream().noneMatch(other -> other.triple() == row.triple()
                    && other.version() <= kept && other.version() > row.version());
            if (row.version() > kept || greatest && row.there()) {
                left.add(row);
            }
        }
        int dropped = rows.size() - left.size();
        rows = left;
        return dropped;
    }

    int rows() {
        return rows.size();
    }

    int latest() {
        return latest;
    }

    int least() {
        int kept = latest;
        for (Party party : parties) {
            if (party.state < 3) {
                kept = Math.min(kept, party.sees);
            }
        }
        for (int version : pins.keySet()) {
            if (pins.get(version) > 0) {
                kept = Math.min(kept, version);
            }
        }
        return kept;
    }

    int state(int number) {
        return party(number).state;
    }

    int waits(int number) {
        return party(number).waitsFor;
    }

    int ring(int i) {
        return i < 0 || i >= ring.size() ? -1 : new ArrayList<>(ring).get(i);
    }

    int conflicts(int kind, int number) {
        argument(kind == 0 && number >= 0 && number < 200 || kind == 1 && number >= 0 && number < 4);
        return (kind == 0 ? failures : refusals).getOrDefault(number, 0);
    }
}

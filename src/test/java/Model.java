import java.util.ArrayList;
import java.util.HashMap;
import java.util.List;
import java.util.Map;
import java.util.TreeMap;
import java.util.TreeSet;

/** A second reading of the document, as plain as can be, with no thought of room or speed. */
final class Model {
    private static final class Controller {
        int steps;
        int failsAt;
        int done;
        int lastParts;
        boolean safe;
        boolean interrupted;
        Long cut;
        final Map<Integer, Integer> waits = new HashMap<>();
        final TreeSet<Integer> things = new TreeSet<>();

        boolean alive() {
            return lastParts == 0;
        }
    }

    private final TreeMap<Integer, Controller> all = new TreeMap<>();
    private final List<Integer> turns = new ArrayList<>();
    private final List<Integer> log = new ArrayList<>();
    private int size;
    private long micro;

    int node(int steps, int failsAt) {
        if (steps < 1 || steps > 200 || failsAt < 0 || failsAt > steps) {
            return -2;
        }
        if (all.size() == 30) {
            return -4;
        }
        Controller c = new Controller();
        c.steps = steps;
        c.failsAt = failsAt;
        all.put(all.size() + 1, c);
        return all.size();
    }

    boolean waits(int node, int step, int other) {
        Controller c = all.get(node);
        boolean taken = c != null && all.containsKey(other) && node != other
            && step >= 1 && step <= c.steps && step > c.done && c.alive();
        if (taken) {
            c.waits.put(step, other);
        }
        return taken;
    }

    void turn(int node) {
        if (all.containsKey(node) && turns.size() < 500) {
            turns.add(node);
        }
    }

    int run() {
        int count = 0;
        while (count < 1000) {
            for (Controller c : all.values()) {
                if (c.alive() && c.cut != null && c.cut == micro) {
                    c.lastParts++;
                    c.things.clear();
                }
            }
            TreeSet<Integer> ready = new TreeSet<>();
            for (int n : all.keySet()) {
                if (all.get(n).alive() && !mustWait(n)) {
                    ready.add(n);
                }
            }
            if (ready.isEmpty()) {
                break;
            }
            List<Integer> row = new ArrayList<>(turns);
            row.addAll(all.keySet());
            TreeSet<Integer> noted = new TreeSet<>();
            for (int n : row) {
                if (ready.remove(n) && step(n)) {
                    noted.add(1000 * n + all.get(n).done);
                }
            }
            log.addAll(noted);
            turns.clear();
            micro++;
            count++;
        }
        turns.clear();
        return count;
    }

    private boolean mustWait(int n) {
        Controller c = all.get(n);
        int next = c.done + 1;
        if (c.waits.containsKey(next)) {
            Controller other = all.get(c.waits.get(next));
            if (other.alive() && other.done < next) {
                return true;
            }
        }
        for (int first = 1; size > 0 && first <= 200; first += size) {
            for (Controller other : all.values()) {
                if (first == next && other.alive() && other.done < first - 1) {
                    return true;
                }
            }
        }
        return false;
    }

    /** Whether the step was done. */
    private boolean step(int n) {
        Controller c = all.get(n);
        boolean fails = c.failsAt == c.done + 1;
        if (fails) {
            c.safe = true;
        } else {
            c.done++;
        }
        if (fails || c.interrupted || c.done == c.steps) {
            c.lastParts++;
            c.things.clear();
        }
        return !fails;
    }

    int log(int i) {
        return i >= 0 && i < 2000 && i < log.size() ? log.get(i) : -1;
    }

    int safe(int node) {
        return all.containsKey(node) ? (all.get(node).safe ? 1 : 0) : -1;
    }

    int cut(int node, long at) {
        if (!all.containsKey(node)) {
            return -1;
        }
        if (at < micro) {
            return -2;
        }
        if (!all.get(node).alive()) {
            return -3;
        }
        all.get(node).cut = at;
        return 1;
    }

    boolean interrupt(int node) {
        boolean alive = all.containsKey(node) && all.get(node).alive();
        if (alive) {
            all.get(node).interrupted = true;
        }
        return alive;
    }

    int held(int node, int what) {
        if (!all.containsKey(node)) {
            return -1;
        }
        if (what < 0 || what > 16) {
            return -2;
        }
        Controller c = all.get(node);
        if (what != 0) {
            boolean taken = false;
            for (Controller other : all.values()) {
                taken |= other.things.contains(what);
            }
            if (taken || !c.alive()) {
                return -3;
            }
            c.things.add(what);
        }
        return c.things.size();
    }

    int barrier(int kind) {
        if (kind < 0 || kind > 200) {
            return -2;
        }
        int was = size;
        size = kind;
        return was;
    }

    int finished(int node) {
        return all.containsKey(node) ? all.get(node).lastParts : -1;
    }

    int close() {
        int count = 0;
        for (Controller c : all.values()) {
            if (c.alive()) {
                c.lastParts++;
                c.things.clear();
                count++;
            }
        }
        return count;
    }

    long microsecondsDone() {
        return micro;
    }

    int nodes() {
        return all.size();
    }

    int logSize() {
        return log.size();
    }
}

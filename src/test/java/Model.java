import java.util.ArrayDeque;
import java.util.ArrayList;
import java.util.Arrays;
import java.util.Collections;
import java.util.Deque;
import java.util.HashMap;
import java.util.LinkedList;
import java.util.List;
import java.util.Map;
import java.util.TreeSet;

/** The document written down a second time, as near to its words as may be, to compare with. */
final class Model {
    record Outcome(List<Integer> row, int failure, int name) {
        static Outcome of(List<Integer> row) {
            return new Outcome(List.copyOf(row), 0, 0);
        }

        static Outcome failed(int kind, int name) {
            return new Outcome(List.of(), kind, name);
        }
    }

    record Read(int number, Outcome outcome) {
    }

    record Trace(List<Read> reads, Outcome outcome) {
    }

    static final class Rule {
        int kind;
        boolean strict;
        List<Integer> inputs = new ArrayList<>();
        LinkedList<Trace> traces = new LinkedList<>();
    }

    /** That a rule is hit goes up through all that stands open in it. */
    static final class Hit extends Exception {
        private static final long serialVersionUID = 1L;
        final transient TreeSet<Integer> ring;

        Hit(TreeSet<Integer> ring) {
            super(null, null, false, false);
            this.ring = ring;
        }
    }

    final Map<Integer, int[]> sources = new HashMap<>();
    final List<Rule> rules = new ArrayList<>();
    final List<Integer> findings = new ArrayList<>();
    Outcome latest;
    List<Integer> latestRing = List.of();
    List<Integer> worked = new ArrayList<>();
    Map<Integer, List<Integer>> stale = new HashMap<>();
    int looked;
    int makes;
    int workedInAll;

    // of the round
    private Map<Integer, Outcome> made;
    private Map<Integer, TreeSet<Integer>> ringOfLeast;
    private Deque<Integer> open;
    private boolean nothing;

    int call(String name, int... a) {
        switch (name) {
            case "source": return source(a[0], a[1]);
            case "set": return set(a[0], a[1], a[2]);
            case "miss": return !isSource(a[0]) ? -1 : sources.remove(a[0]) == null ? 0 : 1;
            case "copy": return copy(a[0], a[1], a[2], a[3], a[4]);
            case "size": return !isSource(a[0]) ? find(2) : !sources.containsKey(a[0]) ? find(1) : sources.get(a[0]).length;
            case "told": return sources.containsKey(a[0]) && within(a[1], sources.get(a[0]).length) ? sources.get(a[0])[a[1]] : 0;
            case "rule": return rule(a[0], a[1] == 1);
            case "input": return input(a[0], a[1]);
            case "turn": return turn(a[0], a[1], a[2]);
            case "become": return become(a[0], a[1], a[2] == 1);
            case "forget": return forget(a[0]);
            case "of": return of(a[0], a[1]);
            case "trace": return trace(a[0], a[1], a[2]);
            case "make": return round(a[0], false);
            case "anew": return round(a[0], true);
            case "outcome": return latest == null ? -1 : a[0] == 0 ? latest.row.size() : a[0] == 1 ? latest.failure : a[0] == 2 ? latest.name : -1;
            case "part": return latest != null && within(a[0], latest.row.size()) ? latest.row.get(a[0]) : 0;
            case "ring": return at(latestRing, a[0]);
            case "worked": return at(worked, a[0]);
            case "looked": return looked;
            case "stale": return at(stale.getOrDefault(a[0], List.of()), a[1]);
            case "count": return count(a[0]);
            case "found": return found(a[0]);
            default: throw new IllegalArgumentException(name);
        }
    }

    private static boolean within(int i, int n) {
        return i >= 0 && i < n;
    }

    private static int at(List<Integer> list, int i) {
        return within(i, list.size()) ? list.get(i) : -1;
    }

    private boolean isSource(int s) {
        return within(s, 16);
    }

    private int find(int finding) {
        findings.add(finding);
        return -3;
    }

    private int source(int s, int n) {
        if (!isSource(s)) return -1;
        if (n < 0) return find(3);
        if (n > 16) return -1;
        sources.put(s, new int[n]);
        return n;
    }

    private int set(int s, int i, int v) {
        if (!isSource(s)) return find(2);
        if (!sources.containsKey(s)) return find(1);
        if (!within(i, sources.get(s).length)) return find(2);
        sources.get(s)[i] = v;
        return 1;
    }

    private int copy(int s, int from, int t, int to, int n) {
        if (!isSource(s) || !isSource(t)) return -1;
        int[] a = sources.get(s);
        int[] b = sources.get(t);
        if (a == null || b == null) return find(1);
        if (from < 0 || to < 0 || n < 0 || (long) from + n > a.length || (long) to + n > b.length) return find(4);
        int[] before = a.clone();
        for (int i = 0; i < n; i++) b[to + i] = before[from + i];
        return n;
    }

    private int rule(int kind, boolean strict) {
        if (kind < 1 || kind > 6) return -1;
        if (rules.size() == 24) return -2;
        Rule rule = new Rule();
        rule.kind = kind;
        rule.strict = strict;
        rules.add(rule);
        return rules.size() - 1;
    }

    private int input(int r, int name) {
        if (!within(r, rules.size()) || !within(name, 40)) return -1;
        Rule rule = rules.get(r);
        if (rule.inputs.size() == 6) return -2;
        rule.inputs.add(name);
        rule.traces.clear();
        return rule.inputs.size();
    }

    private int turn(int r, int i, int name) {
        if (!within(r, rules.size()) || !within(i, rules.get(r).inputs.size()) || !within(name, 40)) return -1;
        Rule rule = rules.get(r);
        if (rule.inputs.set(i, name) == name) return 0;
        rule.traces.clear();
        return 1;
    }

    private int become(int r, int kind, boolean strict) {
        if (!within(r, rules.size()) || kind < 1 || kind > 6) return -1;
        rules.get(r).kind = kind;
        rules.get(r).strict = strict;
        rules.get(r).traces.clear();
        return 1;
    }

    private int forget(int r) {
        if (!within(r, rules.size())) return -1;
        int n = rules.get(r).traces.size();
        rules.get(r).traces.clear();
        return n;
    }

    private int of(int r, int what) {
        if (!within(what, 10)) return -1;
        if (!within(r, rules.size())) return find(2);
        Rule rule = rules.get(r);
        if (what >= 4) return at(rule.inputs, what - 4);
        return new int[] {rule.kind, rule.strict ? 1 : 0, rule.inputs.size(), rule.traces.size()}[what];
    }

    private int trace(int r, int k, int i) {
        if (!within(r, rules.size()) || !within(k, rules.get(r).traces.size())) return -1;
        List<Read> reads = rules.get(r).traces.get(k).reads;
        return i == -1 ? reads.size() : within(i, reads.size()) ? reads.get(i).number : -1;
    }

    private int count(int what) {
        switch (what) {
            case 0: return rules.size();
            case 1: return makes;
            case 2: return workedInAll;
            case 3: return rules.stream().mapToInt(rule -> rule.traces.size()).sum();
            default: return -1;
        }
    }

    private int found(int what) {
        if (what == 0) return findings.isEmpty() ? 0 : findings.get(findings.size() - 1);
        return what >= 1 && what <= 4 ? Collections.frequency(findings, what) : -1;
    }

    private int round(int r, boolean fromNothing) {
        if (!within(r, rules.size())) return -1;
        nothing = fromNothing;
        made = new HashMap<>();
        ringOfLeast = new HashMap<>();
        open = new ArrayDeque<>();
        if (!nothing) {
            makes++;
            worked = new ArrayList<>();
            stale = new HashMap<>();
            looked = 0;
        }
        try {
            latest = outcome(16 + r);
        } catch (Hit hit) {
            throw new IllegalStateException("no rule is left to be hit", hit);
        }
        latestRing = latest.failure == 3 ? new ArrayList<>(ringOfLeast.get(latest.name)) : List.of();
        return latest.failure == 0 ? latest.row.size() : -10 - latest.failure;
    }

    private Outcome outcome(int name) throws Hit {
        if (name < 16) {
            int[] row = sources.get(name);
            return row == null ? Outcome.failed(1, name) : Outcome.of(Arrays.stream(row).boxed().toList());
        }
        int r = name - 16;
        if (r >= rules.size()) return Outcome.failed(4, name);
        if (made.containsKey(r)) return made.get(r);
        if (open.contains(r)) {
            TreeSet<Integer> ring = new TreeSet<>();
            for (int up : open) {
                ring.add(up);
                if (up == r) break;
            }
            throw new Hit(ring);
        }
        open.push(r);
        Outcome came;
        try {
            came = lookOrWork(r);
        } catch (Hit hit) {
            open.pop();
            made.put(r, Outcome.failed(3, hit.ring.first()));
            ringOfLeast.put(hit.ring.first(), hit.ring);
            // the ones above in the ring are hit as well; whoever opened the first of it is not
            if (!open.isEmpty() && hit.ring.contains(open.peek())) throw hit;
            return made.get(r);
        }
        open.pop();
        made.put(r, came);
        return came;
    }

    private Outcome lookOrWork(int r) throws Hit {
        Rule rule = rules.get(r);
        if (!nothing) {
            List<Integer> told = new ArrayList<>();
            stale.put(r, told);
            for (Trace trace : new ArrayList<>(rule.traces)) {
                int other = -2;
                for (int i = 0; i < trace.reads.size() && other == -2; i++) {
                    looked++;
                    if (!outcome(trace.reads.get(i).number).equals(trace.reads.get(i).outcome)) other = i;
                }
                told.add(other);
                if (other == -2) {
                    rule.traces.removeIf(kept -> kept == trace);
                    rule.traces.addFirst(trace);
                    return trace.outcome;
                }
            }
            worked.add(r);
            workedInAll++;
        }
        List<Read> reads = new ArrayList<>();
        Outcome came = work(r, rule, reads);
        if (!nothing) {
            rule.traces.addFirst(new Trace(reads, came));
            if (rule.traces.size() > 4) rule.traces.removeLast();
        }
        return came;
    }

    private Outcome work(int r, Rule rule, List<Read> reads) throws Hit {
        List<Integer> all = new ArrayList<>();
        if (rule.kind <= 4) {
            for (int name : rule.inputs) {
                Outcome read = read(name, reads);
                if (read.failure != 0 && rule.strict) return read;
                all.addAll(read.row);
                if (rule.kind == 4 && !read.row.isEmpty()) return read;
                if (rule.kind != 2 && all.size() > 24) return Outcome.failed(2, r);
            }
            if (rule.kind == 2) return Outcome.of(List.of(all.stream().mapToInt(Integer::intValue).sum()));
            if (rule.kind == 3) Collections.sort(all);
            return Outcome.of(all);
        }
        if (rule.inputs.isEmpty()) return Outcome.of(List.of());
        Outcome guide = read(rule.inputs.get(0), reads);
        if (guide.failure != 0 && rule.strict) return guide;
        int n = rule.inputs.size() - 1;
        if (guide.row.isEmpty() || n == 0) return Outcome.of(List.of());
        for (int x : rule.kind == 5 ? guide.row.subList(0, 1) : guide.row) {
            long place = ((long) x % n + n) % n;
            Outcome read = read(rule.inputs.get(1 + (int) place), reads);
            if (read.failure != 0 && rule.strict) return read;
            all.addAll(read.row);
            if (all.size() > 24) return Outcome.failed(2, r);
        }
        return Outcome.of(all);
    }

    private Outcome read(int name, List<Read> reads) throws Hit {
        Outcome read = outcome(name);
        reads.add(new Read(name, read));
        return read;
    }
}

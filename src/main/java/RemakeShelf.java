import java.util.Arrays;

/**
 * A shelf of results that are made by rules from sources and from one another. What a rule read is
 * kept with what came of it, and it is worked again only if none of that fits what is there now.
 */
public final class RemakeShelf {
    public static final int NUMBER = -1;
    public static final int FULL = -2;
    public static final int FOUND = -3;

    private static final int SOURCES = 16;
    private static final int SOURCE_INTS = 16;
    private static final int RULES = 24;
    private static final int NAMES = SOURCES + RULES;
    private static final int INPUTS = 6;
    private static final int TRACES = 4;
    private static final int ROW_INTS = 24;
    // A TABLE has the most: its INPUT 0, and one for each int of that row.
    private static final int READS = 1 + ROW_INTS;

    // The KINDS of a RULE; 1, JOIN, is what is left when it is none of these.
    private static final int SUM = 2;
    private static final int SORT = 3;
    private static final int FIRST = 4;
    private static final int PICK = 5;
    private static final int TABLE = 6;

    // The kinds of a FAILURE; 0 is an OUTCOME that is a row.
    private static final int ROW = 0;
    private static final int NONE = 1;
    private static final int LONG = 2;
    private static final int RING = 3;
    private static final int NOBODY = 4;

    private static final int MISSING = 1;
    private static final int BEYOND = 2;
    private static final int SIZE = 3;
    private static final int COPY = 4;

    private static final int NOT_THERE = -1;
    private static final int FITS = -2;

    private final Findings findings;
    private final Rounds rounds;
    private final Shelf shelf;

    public RemakeShelf() {
        findings = new Findings();
        rounds = new Rounds();
        shelf = rounds.shelf;
    }

    // ---- sources

    public int source(int s, int n) {
        if (shelf.sourceAt(s) == null) {
            return NUMBER;
        }
        if (n < 0) {
            return findings.add(SIZE);
        }
        if (n > SOURCE_INTS) {
            return NUMBER;
        }
        shelf.putRow(s, new int[n]);
        return n;
    }

    public int set(int s, int i, int v) {
        Outcome held = shelf.sourceAt(s);
        if (held == null) {
            return findings.add(BEYOND);
        }
        if (held.isFailure()) {
            return findings.add(MISSING);
        }
        if (!held.hasInt(i)) {
            return findings.add(BEYOND);
        }
        int[] row = held.row.clone();
        row[i] = v;
        shelf.putRow(s, row);
        return 1;
    }

    public int miss(int s) {
        Outcome held = shelf.sourceAt(s);
        if (held == null) {
            return NUMBER;
        }
        if (held.isFailure()) {
            return 0;
        }
        shelf.sources[s] = failureOf(NONE, s);
        return 1;
    }

    public int copy(int s, int from, int t, int to, int n) {
        Outcome giver = shelf.sourceAt(s);
        Outcome taker = shelf.sourceAt(t);
        if (giver == null || taker == null) {
            return NUMBER;
        }
        if (giver.isFailure() || taker.isFailure()) {
            return findings.add(MISSING);
        }
        if (!giver.hasStretch(from, n) || !taker.hasStretch(to, n)) {
            return findings.add(COPY);
        }
        int[] row = taker.row.clone();
        System.arraycopy(giver.row, from, row, to, n);
        shelf.putRow(t, row);
        return n;
    }

    public int size(int s) {
        Outcome held = shelf.sourceAt(s);
        if (held == null) {
            return findings.add(BEYOND);
        }
        if (held.isFailure()) {
            return findings.add(MISSING);
        }
        return held.row.length;
    }

    public int told(int s, int i) {
        Outcome held = shelf.sourceAt(s);
        return held == null ? 0 : held.intAt(i);
    }

    // ---- rules

    public int rule(int kind, boolean strict) {
        if (!isKind(kind)) {
            return NUMBER;
        }
        if (shelf.ruleCount >= RULES) {
            return FULL;
        }
        return shelf.addRule(kind, strict);
    }

    public int input(int r, int name) {
        Rule rule = shelf.ruleAt(r);
        if (rule == null || !isName(name)) {
            return NUMBER;
        }
        if (rule.inputCount >= INPUTS) {
            return FULL;
        }
        rule.inputs[rule.inputCount] = name;
        rule.inputCount++;
        rule.dropTraces();
        return rule.inputCount;
    }

    public int turn(int r, int i, int name) {
        Rule rule = shelf.ruleAt(r);
        if (rule == null || !rule.hasInput(i) || !isName(name)) {
            return NUMBER;
        }
        if (rule.inputs[i] == name) {
            return 0;
        }
        rule.inputs[i] = name;
        rule.dropTraces();
        return 1;
    }

    public int become(int r, int kind, boolean strict) {
        Rule rule = shelf.ruleAt(r);
        if (rule == null || !isKind(kind)) {
            return NUMBER;
        }
        rule.kind = kind;
        rule.strict = strict;
        rule.dropTraces();
        return 1;
    }

    public int forget(int r) {
        Rule rule = shelf.ruleAt(r);
        if (rule == null) {
            return NUMBER;
        }
        int gone = rule.kept;
        rule.dropTraces();
        return gone;
    }

    public int of(int r, int what) {
        if (what < 0 || what > 3 + INPUTS) {
            return NUMBER;
        }
        Rule rule = shelf.ruleAt(r);
        if (rule == null) {
            return findings.add(BEYOND);
        }
        switch (what) {
            case 0:
                return rule.kind;
            case 1:
                return rule.strict ? 1 : 0;
            case 2:
                return rule.inputCount;
            case 3:
                return rule.kept;
            default:
                return rule.hasInput(what - 4) ? rule.inputs[what - 4] : NOT_THERE;
        }
    }

    public int trace(int r, int k, int i) {
        Rule rule = shelf.ruleAt(r);
        Trace trace = rule == null ? null : rule.traceAt(k);
        if (trace == null) {
            return NOT_THERE;
        }
        return i == -1 ? trace.reads : trace.nameAt(i);
    }

    // ---- rounds

    public int make(int r) {
        Rule rule = shelf.ruleAt(r);
        return rule == null ? NUMBER : rounds.run(rule, false);
    }

    public int anew(int r) {
        Rule rule = shelf.ruleAt(r);
        return rule == null ? NUMBER : rounds.run(rule, true);
    }

    public int outcome(int what) {
        Outcome latest = rounds.latest;
        if (latest == null) {
            return NOT_THERE;
        }
        switch (what) {
            case 0:
                return latest.row.length;
            case 1:
                return latest.failure;
            case 2:
                return latest.name;
            default:
                return NOT_THERE;
        }
    }

    public int part(int i) {
        Outcome latest = rounds.latest;
        return latest == null ? 0 : latest.intAt(i);
    }

    public int ring(int i) {
        int before = 0;
        for (int r = 0; r < RULES; r++) {
            if (isIn(rounds.latestRing, r)) {
                if (before == i) {
                    return r;
                }
                before++;
            }
        }
        return NOT_THERE;
    }

    public int worked(int i) {
        return i >= 0 && i < rounds.workedCount ? rounds.worked[i] : NOT_THERE;
    }

    public int looked() {
        return rounds.looked;
    }

    public int stale(int r, int k) {
        Rule rule = shelf.ruleAt(r);
        return rule != null && k >= 0 && k < TRACES ? rule.stale[k] : NOT_THERE;
    }

    public int count(int what) {
        switch (what) {
            case 0:
                return shelf.ruleCount;
            case 1:
                return rounds.makes;
            case 2:
                return rounds.workedInAll;
            case 3:
                return shelf.keptTraces();
            default:
                return NOT_THERE;
        }
    }

    public int found(int what) {
        if (what == 0) {
            return findings.latest;
        }
        return what >= MISSING && what <= COPY ? findings.counts[what] : NOT_THERE;
    }

    private static boolean isKind(int kind) {
        return kind >= 1 && kind <= TABLE;
    }

    private static boolean isName(int name) {
        return name >= 0 && name < NAMES;
    }

    private static boolean isIn(int ring, int r) {
        return (ring >> r & 1) != 0;
    }

    private static Outcome failureOf(int kind, int name) {
        return new Outcome(kind, name, new int[0]);
    }

    private static final class Findings {
        int latest;
        final int[] counts = new int[COPY + 1];

        int add(int finding) {
            latest = finding;
            counts[finding]++;
            return FOUND;
        }
    }

    /**
     * A row or a FAILURE. It never changes, so that sources, READS and TRACES may share one. The row
     * of a FAILURE is empty: that is what a LENIENT RULE takes it for.
     */
    private static final class Outcome {
        final int failure;
        final int name;
        final int[] row;

        Outcome(int failure, int name, int[] row) {
            this.failure = failure;
            this.name = name;
            this.row = row;
        }

        boolean isFailure() {
            return failure != ROW;
        }

        boolean hasInt(int i) {
            return i >= 0 && i < row.length;
        }

        int intAt(int i) {
            return hasInt(i) ? row[i] : 0;
        }

        /** Told without from + n, which could wrap. */
        boolean hasStretch(int from, int n) {
            return from >= 0 && n >= 0 && from <= row.length && n <= row.length - from;
        }

        boolean isSameAs(Outcome other) {
            if (other == null || failure != other.failure || name != other.name) {
                return false;
            }
            if (row.length != other.row.length) {
                return false;
            }
            for (int i = 0; i < row.length; i++) {
                if (row[i] != other.row[i]) {
                    return false;
                }
            }
            return true;
        }
    }

    /** Its rows are made once and written over, so that many rounds cost little room. */
    private static final class Trace {
        int reads;
        Outcome came;
        private final int[] names = new int[READS];
        private final Outcome[] outcomes = new Outcome[READS];

        void addRead(int name, Outcome read) {
            if (reads < READS) {
                names[reads] = name;
                outcomes[reads] = read;
                reads++;
            }
        }

        int nameAt(int i) {
            return i >= 0 && i < reads ? names[i] : NOT_THERE;
        }

        Outcome outcomeAt(int i) {
            return i >= 0 && i < reads ? outcomes[i] : null;
        }

        int lengthAt(int i) {
            Outcome read = i >= 0 && i < reads ? outcomes[i] : null;
            return read == null ? 0 : read.row.length;
        }

        int[] joinedFrom(int first) {
            int ints = 0;
            for (int i = first; i < reads; i++) {
                ints += lengthAt(i);
            }
            int[] joined = new int[ints];
            int at = 0;
            for (int i = first; i < reads; i++) {
                Outcome read = outcomes[i];
                if (read != null) {
                    System.arraycopy(read.row, 0, joined, at, read.row.length);
                    at += read.row.length;
                }
            }
            return joined;
        }

        int sum() {
            int sum = 0;
            for (int i = 0; i < reads; i++) {
                Outcome read = outcomes[i];
                for (int j = 0; read != null && j < read.row.length; j++) {
                    sum += read.row[j];
                }
            }
            return sum;
        }
    }

    private static final class Rule {
        final int number;
        int kind;
        boolean strict;
        final int[] inputs = new int[INPUTS];
        int inputCount;
        int kept;
        // The kept ones, the latest used first; behind them the one that the next work writes into.
        private final Trace[] traces = new Trace[TRACES + 1];

        // Of the latest make(): for each TRACE gone over what stale() tells.
        final int[] stale = new int[TRACES];

        // Of the ROUND that is being done: hit is the FAILURE that it ends with once it is HIT, ring
        // the RULES of that RING as bits, openedAt the place among those that are OPEN, 0 if it isn't.
        Outcome made;
        Outcome hit;
        int ring;
        int openedAt;

        final Outcome tooLong;
        final Outcome leastOfRing;

        Rule(int number, int kind, boolean strict) {
            this.number = number;
            this.kind = kind;
            this.strict = strict;
            tooLong = failureOf(LONG, number);
            leastOfRing = failureOf(RING, number);
            Arrays.fill(stale, NOT_THERE);
        }

        boolean hasInput(int i) {
            return i >= 0 && i < inputCount;
        }

        Trace traceAt(int k) {
            return k >= 0 && k < kept ? traces[k] : null;
        }

        void dropTraces() {
            kept = 0;
        }

        Trace spareTrace() {
            Trace spare = traces[kept];
            if (spare == null) {
                spare = new Trace();
                traces[kept] = spare;
            }
            return spare;
        }

        void keepSpare(Outcome came) {
            spareTrace().came = came;
            bringForward(kept);
            // With all places taken the one used the longest time ago is now the spare one.
            if (kept < TRACES) {
                kept++;
            }
        }

        void bringForward(int k) {
            if (k < 0 || k > TRACES) {
                return;
            }
            Trace used = traces[k];
            for (int i = k; i > 0; i--) {
                traces[i] = traces[i - 1];
            }
            traces[0] = used;
        }

        void beginRound(boolean fromNothing) {
            made = null;
            hit = null;
            if (!fromNothing) {
                Arrays.fill(stale, NOT_THERE);
            }
        }
    }

    private static final class Shelf {
        final Outcome[] sources = new Outcome[SOURCES];
        final Rule[] rules = new Rule[RULES];
        int ruleCount;
        // Made once: a TABLE may ask for the same RULE that isn't there many times in each ROUND.
        final Outcome[] nobody = new Outcome[RULES];

        Shelf() {
            for (int s = 0; s < SOURCES; s++) {
                sources[s] = failureOf(NONE, s);
            }
            for (int r = 0; r < RULES; r++) {
                nobody[r] = failureOf(NOBODY, SOURCES + r);
            }
        }

        Outcome sourceAt(int s) {
            return s >= 0 && s < SOURCES ? sources[s] : null;
        }

        void putRow(int s, int[] row) {
            sources[s] = new Outcome(ROW, 0, row);
        }

        Rule ruleAt(int r) {
            return r >= 0 && r < ruleCount ? rules[r] : null;
        }

        int addRule(int kind, boolean strict) {
            int number = ruleCount;
            rules[number] = new Rule(number, kind, strict);
            ruleCount++;
            return number;
        }

        int keptTraces() {
            int kept = 0;
            for (Rule rule : rules) {
                kept += rule == null ? 0 : rule.kept;
            }
            return kept;
        }
    }

    private static final class Rounds {
        final Shelf shelf = new Shelf();

        Outcome latest;
        // The numbers of its RULES, as bits.
        int latestRing;

        final int[] worked = new int[RULES];
        int workedCount;
        int looked;
        int makes;
        int workedInAll;

        private boolean fromNothing;
        private int openCount;

        int run(Rule rule, boolean nothing) {
            fromNothing = nothing;
            if (!nothing) {
                makes++;
                workedCount = 0;
                looked = 0;
            }
            for (Rule each : shelf.rules) {
                if (each != null) {
                    each.beginRound(nothing);
                }
            }
            latest = makeRule(rule);
            latestRing = ringBehind(latest);
            return latest.isFailure() ? -10 - latest.failure : latest.row.length;
        }

        /**
         * A RULE is HIT at most once in a ROUND, so no two rings share their least RULE, and what
         * that one is in now is the RING that the FAILURE speaks of, also if it comes of a TRACE.
         */
        private int ringBehind(Outcome outcome) {
            Rule least = outcome.failure == RING ? shelf.ruleAt(outcome.name) : null;
            return least == null ? 0 : least.ring;
        }

        private Outcome outcomeOf(int name) {
            if (name < SOURCES) {
                return shelf.sources[name];
            }
            Rule rule = shelf.ruleAt(name - SOURCES);
            if (rule == null) {
                return shelf.nobody[name - SOURCES];
            }
            if (rule.made != null) {
                return rule.made;
            }
            // With as many open as there may be each of them is: it never goes deeper than that.
            if (rule.openedAt > 0 || openCount >= RULES) {
                return closeRing(rule);
            }
            return makeRule(rule);
        }

        private Outcome closeRing(Rule again) {
            int ring = 0;
            Rule least = again;
            for (Rule rule : shelf.rules) {
                if (rule != null && rule.openedAt >= again.openedAt) {
                    ring |= 1 << rule.number;
                    least = rule.number < least.number ? rule : least;
                }
            }
            for (Rule rule : shelf.rules) {
                if (rule != null && rule.openedAt >= again.openedAt) {
                    rule.ring = ring;
                    rule.hit = least.leastOfRing;
                }
            }
            return least.leastOfRing;
        }

        private Outcome makeRule(Rule rule) {
            openCount++;
            rule.openedAt = openCount;
            Outcome made = fromNothing ? null : lookAt(rule);
            if (made == null) {
                made = work(rule);
            }
            rule.made = made;
            rule.openedAt = 0;
            openCount--;
            return made;
        }

        /** The OUTCOME of the TRACE that fits, or the FAILURE of a RULE that is HIT; else null. */
        private Outcome lookAt(Rule rule) {
            for (int k = 0; k < rule.kept; k++) {
                Trace trace = rule.traceAt(k);
                if (trace == null) {
                    return null;
                }
                int other = firstOther(rule, trace);
                rule.stale[k] = other;
                if (rule.hit != null) {
                    return rule.hit;
                }
                if (other == FITS) {
                    rule.bringForward(k);
                    return trace.came;
                }
            }
            return null;
        }

        private int firstOther(Rule rule, Trace trace) {
            for (int i = 0; i < trace.reads; i++) {
                looked++;
                Outcome now = outcomeOf(trace.nameAt(i));
                if (rule.hit != null) {
                    return NOT_THERE;
                }
                if (!now.isSameAs(trace.outcomeAt(i))) {
                    return i;
                }
            }
            return FITS;
        }

        private Outcome work(Rule rule) {
            if (!fromNothing) {
                noteWorked(rule);
            }
            rule.spareTrace().reads = 0;
            Outcome came;
            switch (rule.kind) {
                case PICK:
                    came = readPicked(rule, 1);
                    break;
                case TABLE:
                    came = readPicked(rule, ROW_INTS);
                    break;
                default:
                    came = readInOrder(rule);
                    break;
            }
            if (!fromNothing && rule.hit == null) {
                rule.keepSpare(came);
            }
            return came;
        }

        private void noteWorked(Rule rule) {
            workedInAll++;
            if (workedCount < RULES) {
                worked[workedCount] = rule.number;
                workedCount++;
            }
        }

        private Outcome readInOrder(Rule rule) {
            Trace trace = rule.spareTrace();
            int ints = 0;
            for (int i = 0; i < rule.inputCount; i++) {
                Outcome end = readInput(rule, i);
                if (end != null) {
                    return end;
                }
                ints += trace.lengthAt(i);
                if (rule.kind == FIRST && ints > 0) {
                    break;
                }
                if (rule.kind != SUM && ints > ROW_INTS) {
                    return rule.tooLong;
                }
            }
            return new Outcome(ROW, 0, rowOf(rule.kind, trace));
        }

        /** For FIRST too all rows are joined: those ahead of the one it ends at are empty. */
        private static int[] rowOf(int kind, Trace trace) {
            if (kind == SUM) {
                return new int[] {trace.sum()};
            }
            int[] row = trace.joinedFrom(0);
            if (kind == SORT) {
                sort(row);
            }
            return row;
        }

        private static void sort(int[] row) {
            for (int i = 1; i < row.length; i++) {
                int moved = row[i];
                int at = i;
                while (at > 0 && row[at - 1] > moved) {
                    row[at] = row[at - 1];
                    at--;
                }
                row[at] = moved;
            }
        }

        /** A PICK is a TABLE that goes by one int of INPUT 0 at most. */
        private Outcome readPicked(Rule rule, int most) {
            Trace trace = rule.spareTrace();
            Outcome end = rule.inputCount > 0 ? readInput(rule, 0) : null;
            if (end != null) {
                return end;
            }
            Outcome guide = trace.outcomeAt(0);
            int others = rule.inputCount - 1;
            int ints = 0;
            for (int i = 0; guide != null && others > 0 && i < guide.row.length && i < most; i++) {
                end = readInput(rule, 1 + Math.floorMod(guide.row[i], others));
                if (end != null) {
                    return end;
                }
                ints += trace.lengthAt(1 + i);
                if (ints > ROW_INTS) {
                    return rule.tooLong;
                }
            }
            return new Outcome(ROW, 0, trace.joinedFrom(1));
        }

        /** What the RULE ends with behind this READ; null if it goes on. */
        private Outcome readInput(Rule rule, int i) {
            int name = rule.inputs[i];
            Outcome read = outcomeOf(name);
            rule.spareTrace().addRead(name, read);
            if (rule.hit != null) {
                return rule.hit;
            }
            return rule.strict && read.isFailure() ? read : null;
        }
    }
}

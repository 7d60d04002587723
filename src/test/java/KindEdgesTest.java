import java.util.Arrays;

/**
 * The boundary cases of Terms 1 and 2: what each kind does with empty rows, with failures, without
 * inputs, with more than 24 ints, with a sum that wraps and with an int below 0 that picks. A test
 * for each sentence, whose place and words its title tells.
 */
public final class KindEdgesTest {
    private static final int JOIN = 1;
    private static final int SUM = 2;
    private static final int SORT = 3;
    private static final int FIRST = 4;
    private static final int PICK = 5;
    private static final int TABLE = 6;
    private static final int MIN = Integer.MIN_VALUE;
    private static final int MAX = Integer.MAX_VALUE;

    public static void main(String[] args) {
        strict();
        lenient();
        eachFailure();
        join();
        sum();
        sumWraps();
        sort();
        first();
        pickWithoutRows();
        pickPlaces();
        pickFailures();
        tableWithoutRows();
        table();
        longRows();
        longByTheLast();
        longTables();
        neverLong();
        Rows.end();
    }

    private static String makes(int r, int... ints) {
        return "make(" + r + ") = " + ints.length + "\n" + Rows.parts(ints);
    }

    private static String fails(int r, int kind, int name) {
        return "make(" + r + ") = " + (-10 - kind) + "; outcome(1) = " + kind + "; outcome(2) = " + name + "\n" + Rows.parts();
    }

    /** Source 0 is 0, source 1 is 5, source 2 is empty, source 3 is MISSING. */
    private static String four() {
        return Rows.row(0, 0) + Rows.row(1, 5) + Rows.row(2);
    }

    private static void strict() {
        for (int kind = JOIN; kind <= TABLE; kind++) {
            Rows.run("Terms 2: If that is a FAILURE, a STRICT RULE ends with the same FAILURE at once: INPUT 0, kind " + kind,
                four() + Rows.rule(0, kind, true, 3, 17, 17) + Rows.rule(1, JOIN, true, 1) + fails(0, 1, 3) + Rows.reads(0, 3)
                + Rows.workedJust(0));
        }
        for (int kind = JOIN; kind <= SORT; kind++) {
            Rows.run("Terms 2: .. with the same FAILURE at once: the last INPUT, kind " + kind,
                four() + Rows.rule(0, kind, true, 1, 2, 3) + fails(0, 1, 3) + Rows.reads(0, 1, 2, 3));
            Rows.run("Terms 2: .. with the same FAILURE at once: the first of two, kind " + kind,
                four() + Rows.rule(0, kind, true, 1, 14, 3, 1) + fails(0, 1, 14) + Rows.reads(0, 1, 14));
        }
        Rows.run("Terms 2: .. a TRACE is kept of that too",
            four() + Rows.rule(0, JOIN, true, 3, 1) + fails(0, 1, 3) + fails(0, 1, 3) + Rows.workedJust() + "looked() = 1");
    }

    private static void lenient() {
        int[][] due = {{5}, {5}, {5}, {5}, {}, {}};
        for (int kind = JOIN; kind <= TABLE; kind++) {
            Rows.run("Terms 2: for a LENIENT one it is an empty row: INPUT 0, kind " + kind,
                four() + Rows.rule(0, kind, false, 3, 1) + makes(0, due[kind - 1]) + "outcome(1) = 0; outcome(2) = 0");
        }
        int[][] dueOfNone = {{}, {0}, {}, {}, {}, {}};
        for (int kind = JOIN; kind <= TABLE; kind++) {
            Rows.run("Terms 2: for a LENIENT one it is an empty row: all INPUTS, kind " + kind,
                four() + Rows.rule(0, kind, false, 3, 3) + makes(0, dueOfNone[kind - 1]));
        }
        Rows.run("Terms 2: for a LENIENT one it is an empty row, and it reads on",
            four() + Rows.rule(0, JOIN, false, 1, 3, 14, 1) + makes(0, 5, 5) + Rows.reads(0, 1, 3, 14, 1));
    }

    /** Rule 0 reads rule 1, which fails in each of the four ways, strictly and leniently. */
    private static void eachFailure() {
        String readers = Rows.rule(0, JOIN, true, 17);
        String lenient = "become(0, 1, false) = 1\n" + makes(0) + "outcome(1) = 0; outcome(2) = 0";
        Rows.run("Terms 1: 1 NONE goes with its name", readers + Rows.rule(1, JOIN, true, 15) + fails(0, 1, 15) + lenient);
        Rows.run("Terms 1: 2 LONG goes with its name",
            "source(0, 16) = 16\n" + readers + Rows.rule(1, JOIN, true, 0, 0) + fails(0, 2, 1) + lenient);
        Rows.run("Terms 1: 3 RING goes with its name", readers + Rows.rule(1, JOIN, true, 17) + fails(0, 3, 1) + lenient);
        Rows.run("Terms 1: 4 NOBODY goes with its name", readers + Rows.rule(1, JOIN, true, 39) + fails(0, 4, 39) + lenient);
        String others = Rows.each(0, 23, r -> "rule(1, true) = " + r);
        Rows.run("Terms 1: 2 LONG (the number, 0 .. 23, of the RULE ..): 0",
            "source(0, 16) = 16\n" + Rows.rule(0, JOIN, true, 0, 0) + fails(0, 2, 0));
        Rows.run("Terms 1: 2 LONG (the number, 0 .. 23, of the RULE ..): 23",
            "source(0, 16) = 16\n" + others + Rows.rule(23, JOIN, true, 0, 0) + fails(23, 2, 23));
        Rows.run("Terms 1: 3 RING (the number, 0 .. 23, of the least RULE ..): 0", Rows.rule(0, JOIN, true, 16) + fails(0, 3, 0));
        Rows.run("Terms 1: 3 RING (the number, 0 .. 23, of the least RULE ..): 23",
            others + Rows.rule(23, JOIN, true, 39) + fails(23, 3, 23));
    }

    private static void join() {
        Rows.run("JOIN: reads all INPUTS, without INPUTS", Rows.rule(0, JOIN, true) + makes(0) + Rows.reads(0) + "of(0, 3) = 1");
        Rows.run("JOIN: reads all INPUTS, in order: six",
            Rows.row(0, 1) + Rows.row(1, 2, 3) + Rows.row(2, 4) + Rows.rule(0, JOIN, true, 1, 0, 2, 0, 2, 1)
            + makes(0, 2, 3, 1, 4, 1, 4, 2, 3) + Rows.reads(0, 1, 0, 2, 0, 2, 1));
        Rows.run("JOIN: rows without ints", four() + Rows.rule(0, JOIN, true, 2, 2) + makes(0) + Rows.reads(0, 2, 2));
        Rows.run("JOIN: a row without ints first, between and last",
            four() + Rows.rule(0, JOIN, true, 2, 1, 2, 0, 2) + makes(0, 5, 0) + Rows.reads(0, 2, 1, 2, 0, 2));
    }

    private static void sum() {
        Rows.run("SUM: one int, without INPUTS", Rows.rule(0, SUM, true) + makes(0, 0) + Rows.reads(0));
        Rows.run("SUM: one int, of rows without ints", four() + Rows.rule(0, SUM, true, 2, 2) + makes(0, 0) + Rows.reads(0, 2, 2));
        Rows.run("SUM: the sum of all: six INPUTS",
            Rows.row(0, 1, 10) + Rows.row(1, 100) + Rows.rule(0, SUM, true, 0, 1, 0, 1, 0, 1) + makes(0, 333)
            + Rows.reads(0, 0, 1, 0, 1, 0, 1));
        Rows.run("SUM: the sum of all: below 0", Rows.row(0, -7, 3) + Rows.row(1, -1) + Rows.rule(0, SUM, true, 0, 1) + makes(0, -5));
    }

    private static void sumWraps() {
        int[][] rows = {{MAX, 0, MAX}, {MAX, 1, MIN}, {MAX, MAX, -2}, {MIN, 0, MIN}, {MIN, -1, MAX}, {MIN, MIN, 0}, {MIN, MAX, -1}};
        for (int[] row : rows) {
            Rows.run("SUM: (wrapping), " + row[0] + " and " + row[1] + " of one row",
                Rows.row(0, row[0], row[1]) + Rows.rule(0, SUM, true, 0) + makes(0, row[2]));
            Rows.run("SUM: (wrapping), " + row[0] + " and " + row[1] + " of two",
                Rows.row(0, row[0]) + Rows.row(1, row[1]) + Rows.rule(0, SUM, true, 0, 1) + makes(0, row[2]));
        }
    }

    private static void sort() {
        Rows.run("SORT: without INPUTS", Rows.rule(0, SORT, true) + makes(0) + Rows.reads(0));
        Rows.run("SORT: rows without ints", four() + Rows.rule(0, SORT, true, 2, 2) + makes(0) + Rows.reads(0, 2, 2));
        Rows.run("SORT: one int", four() + Rows.rule(0, SORT, true, 1) + makes(0, 5));
        Rows.run("SORT: then rising: the first behind the last",
            Rows.row(0, 2, 3) + Rows.row(1, 1) + Rows.rule(0, SORT, true, 0, 1) + makes(0, 1, 2, 3) + Rows.reads(0, 0, 1));
        Rows.run("SORT: then rising: equal ones stay all",
            Rows.row(0, 4, 1, 4, 1) + Rows.rule(0, SORT, true, 0, 0) + makes(0, 1, 1, 1, 1, 4, 4, 4, 4));
        Rows.run("SORT: then rising: the least and the greatest ints",
            Rows.row(0, MAX, 0, MIN, -1, 1) + Rows.rule(0, SORT, true, 0) + makes(0, MIN, -1, 0, 1, MAX));
        int[] high = new int[16];
        int[] low = new int[8];
        int[] due = new int[24];
        for (int i = 0; i < 24; i++) {
            due[i] = i;
            (i < 8 ? low : high)[i < 8 ? 7 - i : 23 - i] = i;
        }
        Rows.run("SORT: then rising: 24 ints that fall",
            Rows.row(0, high) + Rows.row(1, low) + Rows.rule(0, SORT, true, 0, 1) + makes(0, due));
        Rows.run("SORT: what it read stays as it was",
            Rows.row(0, 3, 2) + Rows.rule(0, JOIN, true, 0) + Rows.rule(1, SORT, true, 16) + makes(1, 2, 3) + "told(0, 0) = 3\n"
            + makes(0, 3, 2) + Rows.workedJust());
    }

    private static void first() {
        Rows.run("FIRST: empty without one: no INPUTS", Rows.rule(0, FIRST, true) + makes(0) + Rows.reads(0));
        Rows.run("FIRST: empty without one: six rows without ints",
            four() + Rows.rule(0, FIRST, true, 2, 2, 2, 2, 2, 2) + makes(0) + Rows.reads(0, 2, 2, 2, 2, 2, 2));
        Rows.run("FIRST: up to the first whose row isn't empty: INPUT 0",
            four() + Rows.rule(0, FIRST, true, 1, 0, 3) + makes(0, 5) + Rows.reads(0, 1));
        Rows.run("FIRST: up to the first whose row isn't empty: the last",
            four() + Rows.rule(0, FIRST, true, 2, 2, 2, 2, 2, 1) + makes(0, 5) + Rows.reads(0, 2, 2, 2, 2, 2, 1));
        Rows.run("FIRST: a row that is just 0 isn't empty",
            four() + Rows.rule(0, FIRST, true, 2, 0, 1) + makes(0, 0) + Rows.reads(0, 2, 0));
        Rows.run("FIRST: that row, all of it, and no other",
            Rows.row(0, 1, 2, 3) + Rows.row(1, 4) + Rows.rule(0, FIRST, true, 0, 1) + makes(0, 1, 2, 3));
        Rows.run("FIRST: a RULE behind it isn't made",
            four() + Rows.rule(0, FIRST, true, 1, 17) + Rows.rule(1, JOIN, true, 0) + makes(0, 5) + Rows.workedJust(0) + "of(1, 3) = 0");
        Rows.run("FIRST: a FAILURE behind it isn't read", four() + Rows.rule(0, FIRST, true, 2, 1, 3) + makes(0, 5) + Rows.reads(0, 2, 1));
        Rows.run("FIRST: a FAILURE ahead of it, STRICT",
            four() + Rows.rule(0, FIRST, true, 2, 3, 1) + fails(0, 1, 3) + Rows.reads(0, 2, 3));
        Rows.run("FIRST: a FAILURE ahead of it, LENIENT",
            four() + Rows.rule(0, FIRST, false, 2, 3, 1, 0) + makes(0, 5) + Rows.reads(0, 2, 3, 1));
        Rows.run("FIRST: empty without one: all fail, LENIENT",
            four() + Rows.rule(0, FIRST, false, 3, 14, 39) + makes(0) + Rows.reads(0, 3, 14, 39));
    }

    private static void pickWithoutRows() {
        for (int kind = PICK; kind <= TABLE; kind++) {
            String name = kind == PICK ? "PICK" : "TABLE";
            Rows.run(name + ": reads INPUT 0 (empty, if there is none)", Rows.rule(0, kind, true) + makes(0) + Rows.reads(0));
            Rows.run(name + ": if its row is empty .. empty", four() + Rows.rule(0, kind, true, 2, 1, 3) + makes(0) + Rows.reads(0, 2));
            Rows.run(name + ": if its row is empty, and there are no other INPUTS",
                four() + Rows.rule(0, kind, true, 2) + makes(0) + Rows.reads(0, 2));
            Rows.run(name + ": or there are no other INPUTS: empty", four() + Rows.rule(0, kind, true, 1) + makes(0) + Rows.reads(0, 1));
            Rows.run(name + ": one other INPUT, which is the same",
                four() + Rows.rule(0, kind, true, 1, 1) + makes(0, 5) + Rows.reads(0, 1, 1));
            Rows.run(name + ": there are no other INPUTS, and INPUT 0 fails, STRICT",
                four() + Rows.rule(0, kind, true, 3) + fails(0, 1, 3) + Rows.reads(0, 3));
            Rows.run(name + ": there are no other INPUTS, and INPUT 0 fails, LENIENT",
                four() + Rows.rule(0, kind, false, 3) + makes(0) + Rows.reads(0, 3));
        }
    }

    /** The sources 1 .. 5 are the others: source i is 10 i. */
    private static String pickOf(int kind, int others, int... guide) {
        int[] names = {0, 1, 2, 3, 4, 5};
        
        String sources = Rows.row(0, guide) + Rows.each(1, 6, s -> Rows.row(s, 10 * s));
        return sources + Rows.rule(0, kind, true, Arrays.copyOf(names, 1 + others));
    }

    private static void pickPlaces() {
        for (int n = 1; n <= 5; n++) {
            // by whole numbers: the least that is not below 0 and differs from x by a multiple of n
            for (int x : new int[] {0, 1, n - 1, n, n + 1, -1, -n, -n - 1, 1 - n, MAX, MIN, MIN + 1}) {
                long place = (x + 10_000_000_000L * n) % n;
                int picked = 1 + (int) place;
                Rows.run("PICK: INPUT 1 + (x modulo n, 0 .. n - 1), x " + x + ", n " + n,
                    pickOf(PICK, n, x) + makes(0, 10 * picked) + Rows.reads(0, 0, picked));
                Rows.run("TABLE: as PICK, but for each int, x " + x + ", n " + n,
                    pickOf(TABLE, n, x, x) + makes(0, 10 * picked, 10 * picked) + Rows.reads(0, 0, picked, picked));
            }
        }
        Rows.run("PICK: modulo of an int below 0, told by hand",
            pickOf(PICK, 3, -1) + makes(0, 30) + "set(0, 0, -2) = 1\n" + makes(0, 20) + "set(0, 0, -3) = 1\n" + makes(0, 10)
            + "set(0, 0, -4) = 1\n" + makes(0, 30) + "set(0, 0, MIN) = 1\n" + makes(0, 20) + "set(0, 0, MAX) = 1\n" + makes(0, 20));
        Rows.run("PICK: with x the first int of that row: no other one counts",
            pickOf(PICK, 5, 2, 4, 4) + makes(0, 30) + "set(0, 1, 0) = 1; set(0, 2, 1) = 1\n" + makes(0, 30) + Rows.reads(0, 0, 3));
        Rows.run("PICK: that row, without ints", pickOf(PICK, 2, 1) + "source(2, 0) = 0\n" + makes(0) + Rows.reads(0, 0, 2));
        Rows.run("PICK: that row, of more ints", pickOf(PICK, 2, 1) + Rows.row(2, 7, 8, 9) + makes(0, 7, 8, 9));
        Rows.run("PICK: the RULE that isn't picked isn't made",
            four() + Rows.rule(0, PICK, true, 0, 1, 17) + Rows.rule(1, JOIN, true, 1) + makes(0, 5) + Rows.workedJust(0));
    }

    private static void pickFailures() {
        Rows.run("PICK: INPUT 0 fails, STRICT", four() + Rows.rule(0, PICK, true, 3, 1) + fails(0, 1, 3) + Rows.reads(0, 3));
        Rows.run("PICK: INPUT 0 fails, LENIENT", four() + Rows.rule(0, PICK, false, 3, 1) + makes(0) + Rows.reads(0, 3));
        Rows.run("PICK: the one that is picked fails, STRICT",
            four() + Rows.rule(0, PICK, true, 0, 3, 1) + fails(0, 1, 3) + Rows.reads(0, 0, 3));
        Rows.run("PICK: the one that is picked fails, LENIENT",
            four() + Rows.rule(0, PICK, false, 0, 3, 1) + makes(0) + Rows.reads(0, 0, 3));
        Rows.run("PICK: one that isn't picked would fail", four() + Rows.rule(0, PICK, true, 0, 1, 3) + makes(0, 5) + Rows.reads(0, 0, 1));
    }

    private static void tableWithoutRows() {
        Rows.run("TABLE: rows without ints", four() + Rows.rule(0, TABLE, true, 0, 2) + makes(0) + Rows.reads(0, 0, 2));
        Rows.run("TABLE: a row without ints between others",
            pickOf(TABLE, 2, 0, 1, 0) + "source(2, 0) = 0\n" + makes(0, 10, 10) + Rows.reads(0, 0, 1, 2, 1));
        Rows.run("TABLE: INPUT 0 fails, STRICT", four() + Rows.rule(0, TABLE, true, 3, 1) + fails(0, 1, 3) + Rows.reads(0, 3));
        Rows.run("TABLE: INPUT 0 fails, LENIENT", four() + Rows.rule(0, TABLE, false, 3, 1) + makes(0) + Rows.reads(0, 3));
        Rows.run("TABLE: the first of those read fails, STRICT",
            pickOf(TABLE, 3, 1, 0, 2) + "miss(2) = 1\n" + fails(0, 1, 2) + Rows.reads(0, 0, 2));
        Rows.run("TABLE: the last of those read fails, STRICT",
            pickOf(TABLE, 3, 1, 0, 2) + "miss(3) = 1\n" + fails(0, 1, 3) + Rows.reads(0, 0, 2, 1, 3));
        Rows.run("TABLE: one of those read fails, LENIENT",
            pickOf(TABLE, 3, 1, 0, 2) + "become(0, 6, false) = 1; miss(1) = 1\n" + makes(0, 20, 30) + Rows.reads(0, 0, 2, 1, 3));
        Rows.run("TABLE: one that isn't read would fail",
            pickOf(TABLE, 3, 1, 0, 1) + "miss(3) = 1\n" + makes(0, 20, 10, 20) + Rows.reads(0, 0, 2, 1, 2));
    }

    private static void table() {
        Rows.run("TABLE: for each int of the row of INPUT 0, in order",
            pickOf(TABLE, 5, 4, 0, 3, 1, 2) + makes(0, 50, 10, 40, 20, 30) + Rows.reads(0, 0, 5, 1, 4, 2, 3));
        Rows.run("TABLE: for each int: below 0", pickOf(TABLE, 4, -1, -4, -5, 3) + makes(0, 40, 10, 40, 40) + Rows.reads(0, 0, 4, 1, 4, 4));
        Rows.run("TABLE: for each int: one alone", pickOf(TABLE, 2, 1) + makes(0, 20) + Rows.reads(0, 0, 2));
        Rows.run("TABLE: the rows read so one behind the other", pickOf(TABLE, 2, 1, 0) + Rows.row(2, 7, 8, 9) + makes(0, 7, 8, 9, 10));
    }

    /** As many ints as these sources have, one behind the other; source 9 has none, and 10 is MISSING. */
    private static String sized(int... sizes) {
        return Rows.each(0, sizes.length, s -> "source(" + s + ", " + sizes[s] + ") = " + sizes[s]) + "source(9, 0) = 0\n";
    }

    private static void longRows() {
        for (int kind : new int[] {JOIN, SORT}) {
            for (boolean strict : new boolean[] {true, false}) {
                String of = (kind == JOIN ? "JOIN, " : "SORT, ") + (strict ? "STRICT" : "LENIENT");
                Rows.run("Terms 2: a RULE with more than 24 ints is LONG: 24, " + of,
                    sized(16, 8) + Rows.rule(0, kind, strict, 0, 1) + "make(0) = 24; outcome(0) = 24; outcome(1) = 0\n"
                    + Rows.reads(0, 0, 1));
                Rows.run("Terms 2: a RULE with more than 24 ints is LONG: 25, " + of,
                    sized(16, 9) + Rows.rule(0, kind, strict, 0, 1) + fails(0, 2, 0) + Rows.reads(0, 0, 1));
                Rows.run("Terms 2: 24 ints, and rows without ints, " + of,
                    sized(16, 8) + Rows.rule(0, kind, strict, 0, 1, 9, 9) + "make(0) = 24\n" + Rows.reads(0, 0, 1, 9, 9));
                Rows.run("Terms 2: LONG when it has read the one by which it comes to have these, " + of,
                    sized(8, 9, 1) + Rows.rule(0, kind, strict, 0, 0, 1, 10, 17) + Rows.rule(1, JOIN, true, 2) + fails(0, 2, 0)
                    + Rows.reads(0, 0, 0, 1) + Rows.workedJust(0));
                Rows.run("Terms 2: 24 of a RULE, and one more, " + of,
                    sized(12, 1) + Rows.rule(0, kind, strict, 17, 1) + Rows.rule(1, JOIN, true, 0, 0) + fails(0, 2, 0)
                    + Rows.reads(0, 17, 1) + "turn(0, 1, 9) = 1; make(0) = 24");
                Rows.run("Terms 2: 24 of a RULE twice, " + of,
                    sized(12) + Rows.rule(0, kind, strict, 17, 17, 17) + Rows.rule(1, JOIN, true, 0, 0) + fails(0, 2, 0)
                    + Rows.reads(0, 17, 17));
            }
        }
    }

    private static void longByTheLast() {
        Rows.run("Terms 2: LONG by the last of six",
            sized(4, 5) + Rows.rule(0, JOIN, true, 0, 0, 0, 0, 0, 1) + fails(0, 2, 0) + Rows.reads(0, 0, 0, 0, 0, 0, 1)
            + "turn(0, 5, 0) = 1; make(0) = 24");
        Rows.run("Terms 2: a FAILURE ahead of the one by which it would be LONG, STRICT",
            sized(16) + Rows.rule(0, JOIN, true, 0, 10, 0) + fails(0, 1, 10) + Rows.reads(0, 0, 10));
        Rows.run("Terms 2: a FAILURE ahead of the one by which it is LONG, LENIENT",
            sized(16) + Rows.rule(0, JOIN, false, 0, 10, 0) + fails(0, 2, 0) + Rows.reads(0, 0, 10, 0));
        Rows.run("Terms 2: a FAILURE LONG is kept in its TRACE",
            sized(16, 9) + Rows.rule(0, JOIN, true, 0, 1) + fails(0, 2, 0) + fails(0, 2, 0) + Rows.workedJust() + "looked() = 2\n"
            + "source(1, 8) = 8; make(0) = 24; stale(0, 0) = 1");
    }

    private static void longTables() {
        for (boolean strict : new boolean[] {true, false}) {
            String of = strict ? ", STRICT" : ", LENIENT";
            // the guide, source 0, is all 0 and picks source 1
            Rows.run("Terms 2: TABLE with 24 ints" + of,
                sized(3, 8) + Rows.rule(0, TABLE, strict, 0, 1) + "make(0) = 24\n" + Rows.reads(0, 0, 1, 1, 1));
            Rows.run("Terms 2: TABLE with more than 24 ints is LONG" + of,
                sized(5, 8) + Rows.rule(0, TABLE, strict, 0, 1) + fails(0, 2, 0) + Rows.reads(0, 0, 1, 1, 1, 1));
            Rows.run("Terms 2: TABLE, 25 ints by the last" + of,
                sized(4, 8, 1) + "set(0, 3, 1) = 1\n" + Rows.rule(0, TABLE, strict, 0, 1, 2) + fails(0, 2, 0) + Rows.reads(0, 0, 1, 1, 1, 2)
                + "source(2, 0) = 0; make(0) = 24\n" + Rows.reads(0, 0, 1, 1, 1, 2));
        }
        Rows.run("Terms 2: TABLE, LONG ahead of a FAILURE",
            sized(3, 13) + "set(0, 2, 1) = 1\n" + Rows.rule(0, TABLE, true, 0, 1, 10) + fails(0, 2, 0) + Rows.reads(0, 0, 1, 1));
        String guideOf24 = sized(12, 1) + Rows.rule(0, TABLE, true, 17, 1) + Rows.rule(1, JOIN, true, 0, 0);
        Rows.run("Terms 2: TABLE by 24 ints, with 24 ints", guideOf24 + "make(0) = 24; trace(0, 0, -1) = 25; outcome(1) = 0");
        Rows.run("Terms 2: TABLE by 24 ints: those of INPUT 0 are none of its row",
            guideOf24 + "source(1, 0) = 0\n" + makes(0) + "trace(0, 0, -1) = 25");
        // all 24 are 0 but the last of each twelve, which picks the row of two
        Rows.run("Terms 2: TABLE by 24 ints, the last one is too much",
            guideOf24 + "input(0, 2) = 3; source(2, 2) = 2; set(0, 11, 1) = 1\n" + fails(0, 2, 0) + "trace(0, 0, -1) = 25\n"
            + "source(2, 1) = 1; make(0) = 24; trace(0, 0, 24) = 2");
    }

    private static void neverLong() {
        Rows.run("Terms 2: SUM never: 25 ints",
            sized(16, 9) + "set(1, 8, 3) = 1\n" + Rows.rule(0, SUM, true, 0, 1) + makes(0, 3) + Rows.reads(0, 0, 1));
        Rows.run("Terms 2: SUM never: six of 24 ints, the most there can be",
            "source(0, 12) = 12\n" + Rows.each(0, 12, i -> "set(0, " + i + ", 1) = 1") + Rows.rule(0, SUM, false, 17, 17, 17, 17, 17, 17)
            + Rows.rule(1, JOIN, true, 0, 0) + makes(0, 144) + Rows.reads(0, 17, 17, 17, 17, 17, 17));
        String of24 = sized(12, 12) + Rows.rule(0, JOIN, true, 0, 0);
        Rows.run("Terms 1: An OUTCOME is a row of at most 24 ints: FIRST hands 24 on",
            of24 + Rows.rule(1, FIRST, true, 9, 16, 16) + "make(1) = 24\n" + Rows.reads(1, 9, 16));
        Rows.run("Terms 1: An OUTCOME is a row of at most 24 ints: PICK hands 24 on",
            of24 + Rows.rule(1, PICK, true, 16, 16) + "make(1) = 24\n" + Rows.reads(1, 16, 16));
        Rows.run("Terms 1: An OUTCOME is a row of at most 24 ints: TABLE by one int hands 24 on",
            of24 + "source(2, 1) = 1\n" + Rows.rule(1, TABLE, true, 2, 16) + "make(1) = 24; part(23) = 0\n" + Rows.reads(1, 2, 16));
    }
}

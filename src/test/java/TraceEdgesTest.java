/**
 * The boundary cases of Terms 3 that speak of traces: which of them are kept, which one goes, when
 * one fits, and what a round from NOTHING leaves. A test for each sentence, whose place
 * and words its title tells.
 */
public final class TraceEdgesTest {
    // SUM of source 0, which is one int: a trace for each int that it has been
    private static final String ONE = Rows.row(0, 0) + Rows.rule(0, 2, true, 0);

    public static void main(String[] args) {
        fourAreKept();
        theOneUsedLongestAgoGoes();
        orderWhenOneFits();
        atThatTime();
        whatFits();
        whatFitsOfFailures();
        withoutReads();
        whatComesOfATrace();
        whatComesOfEachKind();
        onceInARound();
        fromNothing();
        most();
        Rows.end();
    }

    /** Source 0 is v, and rule 0, which is the sum of it, is made of a trace. */
    private static String fits(int v, int place) {
        return "set(0, 0, " + v + ") = 1; make(0) = 1; part(0) = " + v + "; worked(0) = -1; stale(0, " + place + ") = -2\n";
    }

    /** Source 0 is v, and rule 0 is worked, since none of its traces fits. */
    private static String works(int v) {
        return "set(0, 0, " + v + ") = 1; make(0) = 1; part(0) = " + v + "; worked(0) = 0\n";
    }

    private static void fourAreKept() {
        for (int kept = 1; kept <= 4; kept++) {
            String made = ONE + Rows.each(0, kept, v -> works(v)) + "of(0, 3) = " + kept + "; count(3) = " + kept + "\n";
            Rows.run("Terms 3: A RULE keeps its latest 4 TRACES: the first of " + kept, made + fits(0, kept - 1) + "of(0, 3) = " + kept);
            Rows.run("Terms 3: A RULE keeps its latest 4 TRACES: the last of " + kept, made + fits(kept - 1, 0) + "of(0, 3) = " + kept);
        }
        String five = ONE + Rows.each(0, 5, v -> works(v)) + "of(0, 3) = 4; count(3) = 4; trace(0, 3, -1) = 1; trace(0, 4, -1) = -1\n";
        Rows.run("Terms 3: when one more comes, one goes: the first of five has gone",
            five + works(0) + "stale(0, 0) = 0; stale(0, 3) = 0; of(0, 3) = 4");
        Rows.run("Terms 3: when one more comes, one goes: the second of five is there", five + fits(1, 3) + "of(0, 3) = 4");
        Rows.run("Terms 3: when one more comes, one goes: the fifth of five is there", five + fits(4, 0));
        Rows.run("Terms 3: each RULE keeps four of its own",
            Rows.row(0, 0) + Rows.rule(0, 2, true, 0) + Rows.rule(1, 2, true, 16)
            + Rows.each(0, 6, v -> "set(0, 0, " + v + ") = 1; make(1) = 1; count(3) = " + 2 * Math.min(4, v + 1))
            + "of(0, 3) = 4; of(1, 3) = 4");
    }

    private static void theOneUsedLongestAgoGoes() {
        String four = ONE + Rows.each(0, 4, v -> works(v));
        Rows.run("Terms 3: the one that was used the longest time ago goes: not the one that came first",
            four + fits(0, 3) + works(4) + fits(0, 1));
        Rows.run("Terms 3: the one that was used the longest time ago goes: the second, when the first was used since",
            four + fits(0, 3) + works(4) + works(1));
        Rows.run("Terms 3: the one that was used the longest time ago goes: gone over is not used", four + works(4) + works(0));
        Rows.run("Terms 3: the one that was used the longest time ago goes: three used, the one between goes",
            four + fits(1, 2) + fits(0, 3) + fits(3, 2) + works(7) + works(2));
        Rows.run("Terms 3: the one that was used the longest time ago goes: .. and the three are there",
            four + fits(1, 2) + fits(0, 3) + fits(3, 2) + works(7) + fits(1, 3) + fits(0, 3) + fits(3, 3) + fits(7, 3));
        Rows.run("Terms 3: used is also what fits when another RULE asks",
            Rows.row(0, 0) + Rows.rule(0, 2, true, 0) + Rows.rule(1, 2, true, 16) + Rows.each(0, 4, v -> works(v)) + "set(0, 0, 0) = 1\n"
            + "make(1) = 1; worked(0) = 1; worked(1) = -1; stale(0, 3) = -2\n" + works(4) + fits(0, 1));
        Rows.run("Terms 3: a TRACE that went and came again is the latest", four + works(4) + works(0) + fits(0, 0) + fits(4, 1));
    }

    /** FIRST: the trace that ends at INPUT i has i + 1 reads, so that their order is seen. */
    private static void orderWhenOneFits() {
        String first = Rows.row(0) + Rows.row(1) + Rows.row(2) + Rows.rule(0, 4, true, 0, 1, 2, 3) + """
            source(3, 1) = 1; make(0) = 1; source(2, 1) = 1; make(0) = 1; source(1, 1) = 1; make(0) = 1; source(0, 1) = 1; make(0) = 1
            trace(0, 0, -1) = 1; trace(0, 1, -1) = 2; trace(0, 2, -1) = 3; trace(0, 3, -1) = 4
            """;
        Rows.run("Terms 3: the TRACE is the latest used: the first of four",
            first + "make(0) = 1; trace(0, 0, -1) = 1; trace(0, 1, -1) = 2; trace(0, 2, -1) = 3; trace(0, 3, -1) = 4");
        Rows.run("Terms 3: the TRACE is the latest used: the second of four",
            first + "source(0, 0) = 0; make(0) = 1; worked(0) = -1\n" + "trace(0, 0, -1) = 2; trace(0, 1, -1) = 1; trace(0, 2, -1) = 3\n"
            + "trace(0, 3, -1) = 4; looked() = 3; stale(0, 0) = 0; stale(0, 1) = -2; stale(0, 2) = -1");
        Rows.run("Terms 3: the TRACE is the latest used: the third of four",
            first + "source(0, 0) = 0; source(1, 0) = 0; make(0) = 1; worked(0) = -1\n" + "trace(0, 0, -1) = 3; trace(0, 1, -1) = 1\n"
            + "trace(0, 2, -1) = 2; trace(0, 3, -1) = 4; looked() = 6; stale(0, 1) = 1; stale(0, 2) = -2; stale(0, 3) = -1");
        Rows.run("Terms 3: the TRACE is the latest used: the last of four",
            first + "source(0, 0) = 0; source(1, 0) = 0; source(2, 0) = 0; make(0) = 1; worked(0) = -1\n" + "trace(0, 0, -1) = 4\n"
            + "trace(0, 1, -1) = 1; trace(0, 2, -1) = 2; trace(0, 3, -1) = 3; looked() = 10; stale(0, 2) = 2; stale(0, 3) = -2\n"
            + "stale(0, 4) = -1");
        Rows.run("Terms 3: when one more comes, it is the first, and the last goes",
            first + "source(0, 0) = 0; source(1, 0) = 0; source(2, 0) = 0; source(3, 0) = 0; make(0) = 0; worked(0) = 0\n"
            + "trace(0, 0, -1) = 4; trace(0, 1, -1) = 1; trace(0, 2, -1) = 2; trace(0, 3, -1) = 3; of(0, 3) = 4; stale(0, 0) = 0\n"
            + "stale(0, 1) = 1; stale(0, 2) = 2; stale(0, 3) = 3; looked() = 10");
    }

    private static void atThatTime() {
        String two = Rows.row(0, 1, 2) + Rows.row(1, 9) + Rows.rule(0, 1, true, 0) + "make(0) = 2\n";
        String other = "make(0) = 2; worked(0) = 0; stale(0, 0) = 0; of(0, 3) = 2\n";
        Rows.run("Terms 2: the OUTCOME of that at that time: ahead of set()", two + "set(0, 1, 9) = 1\n" + other + Rows.parts(1, 9));
        Rows.run("Terms 2: the OUTCOME of that at that time: ahead of copy()",
            two + "copy(1, 0, 0, 1, 1) = 1\n" + other + Rows.parts(1, 9));
        Rows.run("Terms 2: the OUTCOME of that at that time: ahead of copy() within it",
            two + "copy(0, 0, 0, 1, 1) = 1\n" + other + Rows.parts(1, 1));
        Rows.run("Terms 2: the OUTCOME of that at that time: ahead of source()", two + "source(0, 2) = 2\n" + other + Rows.parts(0, 0));
        Rows.run("Terms 2: the OUTCOME of that at that time: ahead of miss()",
            two + "miss(0) = 1; make(0) = -11; worked(0) = 0; stale(0, 0) = 0; of(0, 3) = 2");
        Rows.run("Terms 2: the OUTCOME of that at that time: a copy of nothing leaves it",
            two + "copy(1, 1, 0, 0, 0) = 0; make(0) = 2; stale(0, 0) = -2");
        Rows.run("Terms 2: the OUTCOME of that: all of its row, also where PICK goes by its first int",
            Rows.row(0, 0, 5) + Rows.row(1, 7) + Rows.rule(0, 5, true, 0, 1) + "make(0) = 1; set(0, 1, 6) = 1; make(0) = 1; part(0) = 7\n"
            + "worked(0) = 0; stale(0, 0) = 0; of(0, 3) = 2");
    }

    private static void whatFits() {
        String two = Rows.row(0, 1, 2) + Rows.row(1, 3) + Rows.rule(0, 1, true, 0, 1) + "make(0) = 3\n";
        Rows.run("Terms 3: When all READS of a TRACE are as they were: all",
            two + "make(0) = 3; worked(0) = -1; stale(0, 0) = -2; looked() = 2");
        Rows.run("Terms 3: if the OUTCOME is another one: the first int of the first READ",
            two + "set(0, 0, 9) = 1; make(0) = 3; worked(0) = 0; stale(0, 0) = 0; looked() = 1");
        Rows.run("Terms 3: if the OUTCOME is another one: the last int of the first READ",
            two + "set(0, 1, 9) = 1; make(0) = 3; worked(0) = 0; stale(0, 0) = 0; looked() = 1");
        Rows.run("Terms 3: if the OUTCOME is another one: the last READ",
            two + "set(1, 0, 9) = 1; make(0) = 3; worked(0) = 0; stale(0, 0) = 1; looked() = 2");
        Rows.run("Terms 3: if the OUTCOME is another one: both READS, the first is told",
            two + "set(0, 0, 9) = 1; set(1, 0, 9) = 1; make(0) = 3; worked(0) = 0; stale(0, 0) = 0; looked() = 1");
        Rows.run("Terms 3: if the OUTCOME is another one: one int more",
            two + Rows.row(0, 1, 2, 0) + "make(0) = 4; worked(0) = 0; stale(0, 0) = 0");
        Rows.run("Terms 3: if the OUTCOME is another one: one int less",
            two + Rows.row(0, 1) + "make(0) = 2; worked(0) = 0; stale(0, 0) = 0");
        Rows.run("Terms 3: if the OUTCOME is another one: the same ints in another order",
            two + Rows.row(0, 2, 1) + "make(0) = 3; worked(0) = 0; stale(0, 0) = 0; part(0) = 2");
        Rows.run("Terms 3: if the OUTCOME is another one: an int between",
            Rows.row(0, 1, 2, 3) + Rows.rule(0, 1, true, 0) + "make(0) = 3; set(0, 1, 9) = 1; make(0) = 3; worked(0) = 0; stale(0, 0) = 0\n"
            + "part(1) = 9");
        Rows.run("Terms 3: if the OUTCOME is another one: the last of 24 ints",
            "source(0, 12) = 12; source(1, 12) = 12\n" + Rows.rule(0, 1, true, 17) + Rows.rule(1, 1, true, 0, 1)
            + "make(0) = 24; set(1, 11, 1) = 1; make(0) = 24; stale(0, 0) = 0; stale(1, 0) = 1; part(23) = 1");
        Rows.run("Terms 3: if the OUTCOME is another one: no ints for one that is 0",
            Rows.row(0, 0) + Rows.rule(0, 2, true, 0) + "make(0) = 1; source(0, 0) = 0; make(0) = 1; worked(0) = 0; stale(0, 0) = 0\n"
            + "part(0) = 0");
        Rows.run("Terms 3: as they were, though it was another one between",
            two + "set(0, 0, 9) = 1; miss(1) = 1; set(0, 0, 1) = 1\n" + Rows.row(1, 3) + "make(0) = 3; worked(0) = -1; stale(0, 0) = -2");
        Rows.run("Terms 3: as they were, though the SOURCE was made again",
            two + Rows.row(0, 1, 2) + "make(0) = 3; worked(0) = -1; stale(0, 0) = -2");
        Rows.run("Terms 3: as they were: a copy of the same ints",
            two + Rows.row(2, 3) + "copy(2, 0, 1, 0, 1) = 1; make(0) = 3; worked(0) = -1");
        Rows.run("Terms 3: what isn't read may be another one",
            Rows.row(0, 4) + Rows.row(1, 5) + Rows.rule(0, 4, true, 0, 1) + "make(0) = 1; set(1, 0, 6) = 1; miss(1) = 1; make(0) = 1\n"
            + "worked(0) = -1; looked() = 1");
    }

    private static void whatFitsOfFailures() {
        String lenient = Rows.rule(0, 1, false, 17);
        Rows.run("Terms 3: a TRACE that ended with a FAILURE fits when that is there again",
            Rows.row(1, 4) + Rows.rule(0, 1, true, 1, 0) + "make(0) = -11; source(0, 1) = 1; make(0) = 2; worked(0) = 0; stale(0, 0) = 1\n"
            + "miss(0) = 1\n" + "make(0) = -11; worked(0) = -1; stale(0, 0) = 1; stale(0, 1) = -2; outcome(1) = 1; outcome(2) = 0");
        Rows.run("Terms 3: another OUTCOME: a FAILURE for a row without ints",
            Rows.row(0) + Rows.rule(0, 1, false, 0) + "make(0) = 0; miss(0) = 1; make(0) = 0; worked(0) = 0; stale(0, 0) = 0\n"
            + "of(0, 3) = 2");
        Rows.run("Terms 3: another OUTCOME: a row without ints for a FAILURE",
            Rows.rule(0, 1, false, 0) + "make(0) = 0; source(0, 0) = 0; make(0) = 0; worked(0) = 0; stale(0, 0) = 0; of(0, 3) = 2");
        Rows.run("Terms 3: as they were: a FAILURE of the same kind and name",
            lenient + Rows.rule(1, 1, true, 5) + "make(0) = 0; forget(1) = 1; make(0) = 0; worked(0) = 1; worked(1) = -1\n"
            + "stale(0, 0) = -2");
        Rows.run("Terms 3: another OUTCOME: a FAILURE of the same kind with another name",
            lenient + Rows.rule(1, 1, true, 5) + "make(0) = 0; turn(1, 0, 6) = 1; make(0) = 0; worked(0) = 1; worked(1) = 0\n"
            + "stale(0, 0) = 0");
        // NONE of source 2, and then LONG of rule 2: the same number
        Rows.run("Terms 3: another OUTCOME: a FAILURE of another kind with the same name",
            "source(0, 16) = 16\n" + lenient + Rows.rule(1, 1, true, 2) + Rows.rule(2, 1, true, 0, 0) + "make(0) = 0; turn(1, 0, 18) = 1\n"
            + "make(1) = -12; outcome(2) = 2; make(0) = 0; worked(0) = 0; worked(1) = -1; stale(0, 0) = 0");
        // .. and then RING of rule 2
        Rows.run("Terms 3: another OUTCOME: RING for LONG with the same name",
            "source(0, 16) = 16\n" + lenient + Rows.rule(1, 1, true, 18) + Rows.rule(2, 1, true, 0, 0) + "make(0) = 0; turn(2, 0, 18) = 1\n"
            + "make(1) = -13; outcome(2) = 2; make(0) = 0; worked(0) = 2; worked(1) = 0; stale(0, 0) = 0");
        Rows.run("Terms 3: another OUTCOME: a RULE that comes, for NOBODY",
            lenient + "make(0) = 0; make(0) = 0; worked(0) = -1; rule(1, true) = 1; make(0) = 0; worked(0) = 1; worked(1) = 0\n"
            + "stale(0, 0) = 0");
        Rows.run("Terms 3: as they were: NOBODY still",
            lenient + "make(0) = 0; make(0) = 0; worked(0) = -1; stale(0, 0) = -2; looked() = 1");
    }

    private static void withoutReads() {
        Rows.run("Terms 3: When all READS are as they were: there are none",
            "rule(2, true) = 0; make(0) = 1; worked(0) = 0; make(0) = 1; worked(0) = -1; part(0) = 0; looked() = 0; stale(0, 0) = -2\n"
            + "of(0, 3) = 1");
        Rows.run("Terms 3: there are none, until it has an INPUT",
            Rows.row(0, 4) + "rule(2, true) = 0; make(0) = 1; input(0, 0) = 1; make(0) = 1; worked(0) = 0; part(0) = 4");
    }

    private static void whatComesOfATrace() {
        Rows.run("Terms 3: its OUTCOME is that of the RULE: the ints",
            Rows.row(0, 3, 1, 2) + Rows.rule(0, 3, true, 0) + "make(0) = 3; set(0, 0, 9) = 1; make(0) = 3; set(0, 0, 3) = 1; make(0) = 3\n"
            + "worked(0) = -1\n" + Rows.parts(1, 2, 3));
        Rows.run("Terms 3: its OUTCOME is that of the RULE: the FAILURE",
            Rows.rule(0, 3, true, 7) + "make(0) = -11; make(0) = -11; worked(0) = -1; outcome(1) = 1; outcome(2) = 7; outcome(0) = 0");
        Rows.run("Terms 3: a RULE that is worked to the same OUTCOME leaves the TRACE of the one above as it was",
            Rows.row(0, 3, 1) + Rows.rule(0, 1, true, 17) + Rows.rule(1, 3, true, 0) + "make(0) = 2; set(0, 0, 1) = 1; set(0, 1, 3) = 1\n"
            + "make(0) = 2\n" + Rows.workedJust(1) + "stale(0, 0) = -2; stale(1, 0) = 0; looked() = 2; of(0, 3) = 1; of(1, 3) = 2");
        // the room of a trace that went may be used again, and what was in it must not show
        Rows.run("Terms 3: a TRACE that comes behind one that went is all its own",
            Rows.row(0) + Rows.row(1, 7) + Rows.rule(0, 4, true, 0, 1) + "make(0) = 1; forget(0) = 1; source(0, 1) = 1; make(0) = 1\n"
            + "trace(0, 0, -1) = 1; trace(0, 0, 1) = -1; make(0) = 1; looked() = 1; part(0) = 0");
    }

    /** Source 1 picks for those kinds that pick; source 0 is what is read. */
    private static void whatComesOfEachKind() {
        for (int kind = 1; kind <= 6; kind++) {
            String rule = kind < 5 ? Rows.rule(0, kind, true, 0) : Rows.rule(0, kind, true, 1, 0);
            String one = Rows.row(0, 5) + Rows.row(1, 0) + rule + "make(0) = 1\n";
            Rows.run("Terms 3: its OUTCOME is that of the RULE, as it came: kind " + kind,
                one + "set(0, 0, 6) = 1; make(0) = 1; part(0) = 6; worked(0) = 0; set(0, 0, 5) = 1; make(0) = 1; part(0) = 5\n"
                + "worked(0) = -1\n" + "source(0, 1) = 1; part(0) = 5; make(0) = 1; part(0) = 0; set(0, 0, 6) = 1; make(0) = 1\n"
                + "part(0) = 6; worked(0) = -1");
        }
        // it had more reads when it was a TABLE, and nothing of these is left
        int[][] due = {{7, 7}, {14}, {7, 7}, {7}, {7}, {7}};
        for (int kind = 1; kind <= 6; kind++) {
            int[] reads = kind == 4 ? new int[] {1} : new int[] {1, 1};
            Rows.run("11: its TRACES go: a TABLE of more READS becomes kind " + kind,
                Rows.row(0, 0, 0, 0, 0, 0) + Rows.row(1, 7) + Rows.rule(0, 6, true, 0, 1) + "make(0) = 5; turn(0, 0, 1) = 1; become(0, "
                + kind + ", true) = 1; make(0) = " + due[kind - 1].length + "\n" + Rows.parts(due[kind - 1]) + Rows.reads(0, reads)
                + "make(0) = " + due[kind - 1].length + "; worked(0) = -1; looked() = " + reads.length);
        }
    }

    private static void onceInARound() {
        String twice = Rows.row(0, 3) + Rows.rule(0, 1, true, 17, 17, 18) + Rows.rule(1, 1, true, 0) + Rows.rule(2, 1, true, 17);
        Rows.run("Terms 3: if it has an OUTCOME in this ROUND, that: in (b)",
            twice + "make(0) = 3\n" + Rows.workedJust(0, 1, 2) + "count(2) = 3; of(1, 3) = 1");
        Rows.run("Terms 3: if it has an OUTCOME in this ROUND, that: in (a)",
            twice + "make(0) = 3; make(0) = 3; worked(0) = -1; looked() = 5");
        Rows.run("Terms 3: in the next ROUND it has none yet",
            twice + "make(0) = 3; set(0, 0, 4) = 1; make(0) = 3; part(0) = 4\n" + Rows.workedJust(1, 0, 2));
        Rows.run("Terms 3: in the next ROUND it has none yet, also from NOTHING",
            twice + "make(0) = 3; set(0, 0, 4) = 1; anew(0) = 3; part(0) = 4; set(0, 0, 5) = 1; anew(0) = 3; part(2) = 5; make(0) = 3\n"
            + "part(1) = 5");
        Rows.run("Terms 3: a FAILURE is an OUTCOME in this ROUND too",
            Rows.rule(0, 1, false, 17, 17) + Rows.rule(1, 1, true, 5) + "make(0) = 0\n" + Rows.workedJust(0, 1)
            + "make(0) = 0; looked() = 3");
        Rows.run("Terms 3: a row without ints is an OUTCOME in this ROUND too",
            Rows.rule(0, 1, true, 17, 17) + "rule(1, true) = 1; make(0) = 0\n" + Rows.workedJust(0, 1));
    }

    private static void fromNothing() {
        String four = ONE + Rows.each(0, 4, v -> works(v));
        Rows.run("Terms 3: From NOTHING a ROUND .. keeps none: without TRACES",
            ONE + "anew(0) = 1; of(0, 3) = 0; count(3) = 0; trace(0, 0, -1) = -1; make(0) = 1; worked(0) = 0");
        for (int v = 0; v < 4; v++) {
            Rows.run("Terms 3: From NOTHING a ROUND .. keeps none: of four none goes, " + v,
                four + "set(0, 0, 8) = 1; anew(0) = 1; part(0) = 8; of(0, 3) = 4; count(3) = 4\n" + fits(v, 3 - v));
        }
        Rows.run("Terms 3: From NOTHING a ROUND .. keeps none: not the one that was worked",
            four + "set(0, 0, 8) = 1; anew(0) = 1\n" + works(8));
        Rows.run("Terms 3: From NOTHING .. as if no RULE had TRACES: none is used",
            four + "set(0, 0, 0) = 1; anew(0) = 1; part(0) = 0\n" + works(4) + works(0));
        // a rule that was forgotten has rooms for traces, and none in them
        Rows.run("Terms 3: From NOTHING .. keeps none: behind forget()",
            four + "forget(0) = 4; anew(0) = 1; of(0, 3) = 0; make(0) = 1; worked(0) = 0; of(0, 3) = 1");
        Rows.run("Terms 3: From NOTHING .. the RULES that are read too",
            Rows.row(0, 1) + Rows.rule(0, 1, true, 17) + Rows.rule(1, 1, true, 0) + "make(0) = 1; set(0, 0, 2) = 1; anew(0) = 1\n"
            + "part(0) = 2; of(0, 3) = 1; of(1, 3) = 1; set(0, 0, 1) = 1; make(0) = 1; worked(0) = -1; looked() = 2");
    }

    private static void most() {
        String chain = Rows.row(0, 0) + Rows.each(0, 24, r -> Rows.rule(r, 1, true, r == 23 ? 0 : 17 + r).strip());
        Rows.run("Terms 3: 24 RULES with 4 TRACES each",
            chain + Rows.each(1, 7, v -> "set(0, 0, " + v + ") = 1; make(0) = 1; part(0) = " + v + "; count(3) = " + 24 * Math.min(4, v))
            + Rows.each(0, 24, r -> "of(" + r + ", 3) = 4; trace(" + r + ", 3, -1) = 1; trace(" + r + ", 4, -1) = -1")
            + "set(0, 0, 3) = 1; make(0) = 1; worked(0) = -1; count(3) = 96; forget(23) = 4; count(3) = 92");
    }
}

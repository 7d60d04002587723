/**
 * The boundary cases of promises 1 to 7 and 24, and of Terms 1 and 4 where they speak of sources: a
 * test for each sentence, whose place and words its title tells.
 */
public final class SourceEdgesTest {
    // source 0 is 1 2 3 4, source 1 is 11 12
    private static final String TWO = Rows.row(0, 1, 2, 3, 4) + Rows.row(1, 11, 12);
    private static final String TWO_AS_THEY_WERE = """
        size(0) = 4; told(0, 0) = 1; told(0, 1) = 2; told(0, 2) = 3; told(0, 3) = 4; size(1) = 2; told(1, 0) = 11; told(1, 1) = 12
        """;

    public static void main(String[] args) {
        newObject();
        twoObjects();
        source();
        set();
        miss();
        copy();
        copyWithin();
        size();
        told();
        found();
        Rows.end();
    }

    private static void newObject() {
        Rows.run("1: All SOURCES are MISSING", Rows.each(0, 16, s -> "size(" + s + ") = FOUND; found(0) = 1; found(1) = " + (s + 1)));
        Rows.run("1: All SOURCES are MISSING, so it was already when miss() is called", Rows.each(0, 16, s -> "miss(" + s + ") = 0"));
        Rows.run("1: there are no RULES", """
            count(0) = 0; make(0) = NUMBER; anew(0) = NUMBER; forget(0) = NUMBER; input(0, 0) = NUMBER; become(0, 1, true) = NUMBER
            turn(0, 0, 0) = NUMBER; trace(0, 0, -1) = -1; stale(0, 0) = -1; of(0, 0) = FOUND
            // the first that comes has the least number
            rule(1, true) = 0; count(0) = 1; of(0, 0) = 1
            """);
        String nothing = """
            outcome(0) = -1; outcome(1) = -1; outcome(2) = -1; part(0) = 0; ring(0) = -1; worked(0) = -1; looked() = 0
            count(1) = 0; count(2) = 0; count(3) = 0
            """;
        Rows.run("1: no ROUND was done",
            nothing + "rule(1, true) = 0\n" + nothing + "stale(0, 0) = -1; of(0, 3) = 0; make(0) = 0; outcome(0) = 0");
        Rows.run("1: nothing was found", "found(0) = 0; found(1) = 0; found(2) = 0; found(3) = 0; found(4) = 0");
    }

    private static void twoObjects() {
        RemakeShelf used = new RemakeShelf();
        for (String call : Rows.split("source(0, 1); set(0, 0, 4); rule(1, true); input(0, 0); make(0); size(16)")) {
            Rows.ask(used, call);
        }
        RemakeShelf other = new RemakeShelf();
        Rows.due("1: a new object has no source of another one", Rows.ask(other, "miss(0)"), 0);
        Rows.due("1: a new object has no rule of another one", Rows.ask(other, "count(0)"), 0);
        Rows.due("1: a new object has no round of another one", Rows.ask(other, "outcome(0)"), -1);
        Rows.due("1: a new object has no finding of another one", Rows.ask(other, "found(0)"), 0);
        Rows.ask(other, "source(0, 2)");
        Rows.due("1: the other one stays as it was", Rows.ask(used, "size(0)"), 1);
        Rows.due("1: the other one's int stays as it was", Rows.ask(used, "told(0, 0)"), 4);
    }

    private static void source() {
        Rows.run("2: SOURCES are numbered 0 .. 15",
            Rows.each(0, 16, s -> "source(" + s + ", 1) = 1; set(" + s + ", 0, " + (s + 1) + ") = 1")
            + Rows.each(0, 16, s -> "told(" + s + ", 0) = " + (s + 1)));
        Rows.run("2: NUMBER: s isn't 0 .. 15", """
            source(-1, 1) = NUMBER; source(16, 1) = NUMBER; source(17, 1) = NUMBER; source(MIN, 1) = NUMBER; source(MAX, 1) = NUMBER
            source(0, 1) = 1; source(15, 1) = 1; found(0) = 0
            """);
        Rows.run("2: FOUND (SIZE): n is below 0", """
            source(4, -1) = FOUND; found(0) = 3; found(3) = 1; source(4, MIN) = FOUND; found(3) = 2; size(4) = FOUND; found(0) = 1
            source(4, 0) = 0; found(3) = 2; found(0) = 1
            """);
        Rows.run("2: NUMBER: n is above 16", """
            source(4, 17) = NUMBER; source(4, 18) = NUMBER; source(4, MAX) = NUMBER; found(0) = 0; miss(4) = 0
            source(4, 16) = 16; size(4) = 16; source(4, 15) = 15; size(4) = 15
            """);
        Rows.run("2: a row of n ints, for each n that may be", Rows.each(0, 17, n -> "source(3, " + n + ") = " + n + "; size(3) = " + n));
        Rows.run("2: A row without ints is none that is MISSING",
            "source(3, 0) = 0; size(3) = 0; found(0) = 0; miss(3) = 1; size(3) = FOUND");
        Rows.run("2: all 0, also when the row was longer, as long, shorter, or MISSING", """
            source(0, 3) = 3; set(0, 0, 5) = 1; set(0, 1, 6) = 1; set(0, 2, 7) = 1
            source(0, 3) = 3; told(0, 0) = 0; told(0, 1) = 0; told(0, 2) = 0
            set(0, 0, 5) = 1; set(0, 1, 6) = 1; set(0, 2, 7) = 1; source(0, 2) = 2; told(0, 0) = 0; told(0, 1) = 0; told(0, 2) = 0
            set(0, 1, 6) = 1; source(0, 4) = 4; told(0, 1) = 0; told(0, 2) = 0; told(0, 3) = 0
            set(0, 3, 9) = 1; miss(0) = 1; source(0, 4) = 4; told(0, 3) = 0
            set(0, 3, 9) = 1; source(0, 0) = 0; source(0, 4) = 4; told(0, 3) = 0
            """);
        Rows.run("2: another SOURCE stays",
            "source(0, 2) = 2; set(0, 1, 8) = 1; source(1, 1) = 1; source(15, 0) = 0; size(0) = 2; told(0, 1) = 8");
    }

    private static void set() {
        Rows.run("3: BEYOND: s isn't 0 .. 15", """
            source(0, 1) = 1; source(15, 1) = 1
            set(-1, 0, 1) = FOUND; found(0) = 2; found(2) = 1; set(16, 0, 1) = FOUND; found(2) = 2
            set(MIN, 0, 1) = FOUND; set(MAX, 0, 1) = FOUND; found(2) = 4; found(1) = 0
            set(0, 0, 1) = 1; set(15, 0, 1) = 1; found(2) = 4
            """);
        Rows.run("3: MISSING", """
            set(0, 0, 1) = FOUND; found(0) = 1; found(1) = 1; set(15, 0, 1) = FOUND; found(1) = 2; told(0, 0) = 0
            source(0, 1) = 1; set(0, 0, 1) = 1; miss(0) = 1; set(0, 0, 1) = FOUND; found(1) = 3; found(2) = 0
            """);
        Rows.run("3: BEYOND: it has no int i, of one int", """
            source(0, 1) = 1; set(0, -1, 4) = FOUND; found(0) = 2; set(0, 1, 4) = FOUND; found(2) = 2; found(1) = 0
            told(0, 0) = 0; set(0, 0, 4) = 1; told(0, 0) = 4; found(2) = 2; size(0) = 1
            """);
        Rows.run("3: BEYOND: it has no int i, of 16 ints", """
            source(0, 16) = 16; set(0, 16, 4) = FOUND; set(0, MAX, 4) = FOUND; set(0, MIN, 4) = FOUND; found(0) = 2; found(2) = 3
            set(0, 15, 4) = 1; set(0, 0, 3) = 1; told(0, 15) = 4; told(0, 0) = 3; told(0, 14) = 0; told(0, 1) = 0; found(2) = 3
            """);
        Rows.run("3: BEYOND: it has no int i, of no ints",
            "source(0, 0) = 0; set(0, 0, 4) = FOUND; found(0) = 2; set(0, -1, 4) = FOUND; found(2) = 2; size(0) = 0");
        Rows.run("3: BEYOND: it has no int i, when the row was longer before", """
            source(0, 3) = 3; set(0, 2, 4) = 1; source(0, 2) = 2; set(0, 2, 4) = FOUND; found(0) = 2; set(0, 1, 4) = 1
            """);
        Rows.run("3: An int of a SOURCE is v: 1, for any v, and if it is the same", """
            source(0, 1) = 1; set(0, 0, 0) = 1; told(0, 0) = 0; set(0, 0, MIN) = 1; told(0, 0) = MIN; set(0, 0, MAX) = 1; told(0, 0) = MAX
            set(0, 0, MAX) = 1; told(0, 0) = MAX; set(0, 0, -1) = 1; told(0, 0) = -1; found(0) = 0
            """);
    }

    private static void miss() {
        Rows.run("4: NUMBER: s isn't 0 .. 15", """
            source(0, 1) = 1; source(15, 1) = 1
            miss(-1) = NUMBER; miss(16) = NUMBER; miss(MIN) = NUMBER; miss(MAX) = NUMBER; size(0) = 1; size(15) = 1
            miss(0) = 1; miss(15) = 1; found(0) = 0
            """);
        Rows.run("4: 0 if it was", "miss(7) = 0; source(7, 1) = 1; miss(7) = 1; miss(7) = 0; miss(7) = 0; found(0) = 0; size(7) = FOUND");
        Rows.run("4: an empty one was not MISSING", "source(7, 0) = 0; miss(7) = 1; miss(7) = 0");
        Rows.run("4: the others stay", "source(6, 1) = 1; source(7, 1) = 1; source(8, 1) = 1; miss(7) = 1; size(6) = 1; size(8) = 1");
    }

    private static void copy() {
        Rows.run("5: NUMBER: s isn't 0 .. 15", TWO + """
            copy(-1, 0, 0, 0, 0) = NUMBER; copy(16, 0, 0, 0, 0) = NUMBER; copy(MIN, 0, 0, 0, 0) = NUMBER; copy(MAX, 0, 0, 0, 0) = NUMBER
            found(0) = 0; copy(0, 0, 0, 0, 0) = 0; source(15, 1) = 1; copy(15, 0, 0, 0, 1) = 1; told(0, 0) = 0
            """);
        Rows.run("5: NUMBER: t isn't 0 .. 15", TWO + """
            copy(0, 0, -1, 0, 0) = NUMBER; copy(0, 0, 16, 0, 0) = NUMBER; copy(0, 0, MIN, 0, 0) = NUMBER; copy(0, 0, MAX, 0, 0) = NUMBER
            found(0) = 0; source(15, 1) = 1; copy(0, 0, 15, 0, 1) = 1; told(15, 0) = 1
            """);
        Rows.run("5: MISSING: one of them is, s",
            TWO + "copy(2, 0, 1, 0, 0) = FOUND; found(0) = 1; found(1) = 1; found(4) = 0\n" + TWO_AS_THEY_WERE);
        Rows.run("5: MISSING: one of them is, t",
            TWO + "copy(0, 0, 2, 0, 0) = FOUND; found(0) = 1; found(1) = 1; miss(2) = 0\n" + TWO_AS_THEY_WERE);
        Rows.run("5: MISSING: both are, or it is the same: one FINDING",
            "copy(2, 0, 3, 0, 0) = FOUND; found(1) = 1; copy(2, 0, 2, 0, 0) = FOUND; found(1) = 2");
        Rows.run("5: MISSING: an empty one isn't",
            "source(2, 0) = 0; source(3, 0) = 0; copy(2, 0, 3, 0, 0) = 0; found(0) = 0; miss(3) = 1; copy(2, 0, 3, 0, 0) = FOUND");
        Rows.run("5: COPY: from is below 0", TWO + """
            copy(0, -1, 1, 0, 1) = FOUND; found(0) = 4; copy(0, -1, 1, 0, 0) = FOUND; copy(0, MIN, 1, 0, 1) = FOUND; found(4) = 3
            """ + TWO_AS_THEY_WERE + "copy(0, 0, 1, 0, 1) = 1; told(1, 0) = 1; found(4) = 3");
        Rows.run("5: COPY: to is below 0", TWO + """
            copy(0, 0, 1, -1, 1) = FOUND; found(0) = 4; copy(0, 0, 1, -1, 0) = FOUND; copy(0, 0, 1, MIN, 1) = FOUND; found(4) = 3
            """ + TWO_AS_THEY_WERE);
        Rows.run("5: COPY: n is below 0", TWO + """
            copy(0, 0, 1, 0, -1) = FOUND; found(0) = 4; copy(0, 2, 1, 2, -1) = FOUND; copy(0, 0, 1, 0, MIN) = FOUND; found(4) = 3
            copy(0, 0, 1, 0, 0) = 0; found(4) = 3
            """ + TWO_AS_THEY_WERE);
        Rows.run("5: COPY: from + n is more than that SOURCE has", TWO + """
            copy(0, 3, 1, 0, 2) = FOUND; found(0) = 4; copy(0, 4, 1, 0, 1) = FOUND; copy(1, 1, 0, 0, 2) = FOUND; copy(1, 0, 0, 0, 3) = FOUND
            copy(0, 5, 1, 0, 0) = FOUND; found(4) = 5
            """ + TWO_AS_THEY_WERE + """
            copy(0, 2, 1, 0, 2) = 2; told(1, 0) = 3; told(1, 1) = 4; copy(0, 3, 1, 0, 1) = 1; told(1, 0) = 4
            copy(0, 4, 1, 0, 0) = 0; found(4) = 5
            """);
        Rows.run("5: COPY: to + n is more than that SOURCE has", TWO + """
            copy(0, 0, 1, 1, 2) = FOUND; found(0) = 4; copy(0, 0, 1, 2, 1) = FOUND; copy(0, 0, 1, 0, 3) = FOUND; copy(1, 0, 0, 3, 2) = FOUND
            copy(0, 0, 1, 3, 0) = FOUND; found(4) = 5
            """ + TWO_AS_THEY_WERE + """
            copy(0, 0, 1, 1, 1) = 1; told(1, 1) = 1; told(1, 0) = 11; copy(0, 0, 1, 2, 0) = 0; copy(0, 2, 1, 0, 2) = 2
            told(1, 1) = 4; found(4) = 5
            """);
        Rows.run("5: from + n, or to + n (by whole numbers without end)", TWO + """
            copy(0, 1, 1, 0, MAX) = FOUND; copy(0, MAX, 1, 0, 1) = FOUND; copy(0, MAX, 1, 0, MAX) = FOUND; copy(0, MAX, 1, 0, 0) = FOUND
            copy(0, 0, 1, MAX, 1) = FOUND; copy(0, 0, 1, 1, MAX) = FOUND; copy(0, MAX, 1, MAX, MAX) = FOUND; copy(0, 0, 1, MAX, 0) = FOUND
            copy(0, 0, 1, MAX, 2) = FOUND; copy(0, MIN, 1, MIN, MIN) = FOUND; copy(0, 1, 1, 1, -1) = FOUND; found(4) = 11; found(0) = 4
            """ + TWO_AS_THEY_WERE);
        Rows.run("5: n: 16 ints from 16 ints",
            "source(0, 16) = 16; source(1, 16) = 16; set(0, 0, 4) = 1; set(0, 15, 5) = 1; copy(0, 0, 1, 0, 17) = FOUND\n"
            + "told(1, 0) = 0; copy(0, 0, 1, 0, 16) = 16; told(1, 0) = 4; told(1, 15) = 5; size(1) = 16");
        Rows.run("5: n: none of none",
            "source(0, 0) = 0; source(1, 0) = 0; copy(0, 0, 1, 0, 0) = 0; copy(0, 0, 1, 0, 1) = FOUND; found(0) = 4; size(1) = 0");
        Rows.run("5: what is copied stays what it was when the first one changes",
            TWO + "copy(0, 0, 1, 0, 2) = 2; set(0, 0, 9) = 1; told(1, 0) = 1; set(1, 1, 8) = 1; told(0, 1) = 2");
    }

    private static void copyWithin() {
        Rows.run("5: as they are ahead of this, if it is the same: to a later place", TWO + """
            copy(0, 0, 0, 1, 3) = 3; told(0, 0) = 1; told(0, 1) = 1; told(0, 2) = 2; told(0, 3) = 3
            """);
        Rows.run("5: as they are ahead of this, if it is the same: to an earlier place", TWO + """
            copy(0, 1, 0, 0, 3) = 3; told(0, 0) = 2; told(0, 1) = 3; told(0, 2) = 4; told(0, 3) = 4
            """);
        Rows.run("5: as they are ahead of this, if it is the same: to the same place",
            TWO + "copy(0, 0, 0, 0, 4) = 4\n" + TWO_AS_THEY_WERE);
        Rows.run("5: within one SOURCE, one int more than there is",
            TWO + "copy(0, 0, 0, 1, 4) = FOUND; copy(0, 1, 0, 0, 4) = FOUND; found(4) = 2\n" + TWO_AS_THEY_WERE);
    }

    private static void size() {
        Rows.run("6: BEYOND: s isn't 0 .. 15", """
            size(-1) = FOUND; found(0) = 2; found(2) = 1; size(16) = FOUND; found(2) = 2; size(MIN) = FOUND; size(MAX) = FOUND; found(2) = 4
            found(1) = 0; source(0, 1) = 1; source(15, 2) = 2; size(0) = 1; size(15) = 2; found(2) = 4
            """);
        Rows.run("6: MISSING",
            "size(0) = FOUND; found(0) = 1; size(15) = FOUND; found(1) = 2; source(0, 0) = 0; size(0) = 0; miss(0) = 1; size(0) = FOUND\n"
            + "found(1) = 3; found(2) = 0");
    }

    private static void told() {
        Rows.run("7: 0 if there is none such: the int",
            TWO + "told(0, -1) = 0; told(0, 4) = 0; told(1, 2) = 0; told(0, MAX) = 0; told(0, MIN) = 0; told(0, 0) = 1; told(0, 3) = 4\n"
            + "found(0) = 0");
        Rows.run("7: 0 if there is none such: the SOURCE", TWO + """
            told(-1, 0) = 0; told(16, 0) = 0; told(MAX, 0) = 0; told(MIN, 0) = 0; told(2, 0) = 0; miss(0) = 1; told(0, 0) = 0; found(0) = 0
            """ + Rows.row(15, 6) + "told(15, 0) = 6; told(15, 1) = 0");
        Rows.run("7: Int i of a SOURCE, of 16 ints",
            "source(0, 16) = 16\n" + Rows.each(0, 16, i -> "set(0, " + i + ", " + (i + 30) + ") = 1")
            + Rows.each(0, 16, i -> "told(0, " + i + ") = " + (i + 30)) + "told(0, 16) = 0");
    }

    private static void found() {
        String each = "source(0, 2) = 2; size(1) = FOUND; size(16) = FOUND; source(0, -1) = FOUND; copy(0, 0, 0, 0, 3) = FOUND\n";
        Rows.run("24: 0 none yet", "found(0) = 0; source(0, 1) = 1; source(16, 1) = NUMBER; found(0) = 0; size(1) = FOUND; found(0) = 1");
        Rows.run("24: -1 for another what",
            "found(-1) = -1; found(5) = -1; found(MAX) = -1; found(MIN) = -1\n" + each
            + "found(-1) = -1; found(5) = -1; found(0) = 4; found(4) = 1");
        Rows.run("24: the latest FINDING", """
            source(0, 2) = 2; size(1) = FOUND; found(0) = 1; size(16) = FOUND; found(0) = 2; source(0, -1) = FOUND; found(0) = 3
            copy(0, 0, 0, 0, 3) = FOUND; found(0) = 4; size(1) = FOUND; found(0) = 1; of(0, 0) = FOUND; found(0) = 2
            """);
        Rows.run("24: 1 .. 4 how many there were of each", each + each.replace("copy(0, 0, 0, 0, 3) = FOUND", "found(0) = 3")
            + "size(16) = FOUND; found(1) = 2; found(2) = 3; found(3) = 2; found(4) = 1");
        Rows.run("24: A refusal that is no FINDING isn't counted, nor is a question for what isn't there", each + """
            source(16, 0) = NUMBER; source(0, 17) = NUMBER; miss(16) = NUMBER; copy(16, 0, 0, 0, 0) = NUMBER; rule(0, true) = NUMBER
            input(0, 0) = NUMBER; turn(0, 0, 0) = NUMBER; become(0, 1, true) = NUMBER; forget(0) = NUMBER
            of(0, 10) = NUMBER; make(0) = NUMBER; anew(0) = NUMBER
            told(16, 0) = 0; told(1, 0) = 0; told(0, 2) = 0; trace(0, 0, 0) = -1; outcome(0) = -1; part(0) = 0
            ring(0) = -1; worked(0) = -1; stale(0, 0) = -1
            found(0) = 4; found(1) = 1; found(2) = 1; found(3) = 1; found(4) = 1
            """);
        Rows.run("24: a FINDING stays the latest when a call goes well",
            "size(1) = FOUND; source(1, 1) = 1; size(1) = 1; found(0) = 1; found(1) = 1");
        Rows.run("An object is used for at most 512 calls: the last ones",
            Rows.each(0, 510, i -> "size(16) = FOUND") + "found(2) = 510; found(0) = 2");
    }
}

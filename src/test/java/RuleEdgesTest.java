/**
 * The boundary cases of promises 8 to 14, and of Terms 1 where it speaks of rules and names: a test
 * for each sentence, whose place and words its title tells.
 */
public final class RuleEdgesTest {
    private static final String NO_SUCH_RULE = "-1, 1, 23, 24, MAX, MIN";

    public static void main(String[] args) {
        rule();
        input();
        names();
        turn();
        become();
        forget();
        of();
        trace();
        Rows.end();
    }

    /** A call for each number that is no rule's when rule 0 alone is there; # is that number. */
    private static String forNoSuchRule(String row) {
        StringBuilder all = new StringBuilder();
        for (String r : NO_SUCH_RULE.split(", ")) {
            all.append(row.replace("#", r)).append('\n');
        }
        return all.toString();
    }

    private static void rule() {
        Rows.run("8: NUMBER: kind isn't 1 .. 6", """
            rule(0, true) = NUMBER; rule(7, true) = NUMBER; rule(-1, true) = NUMBER; rule(MAX, false) = NUMBER; rule(MIN, false) = NUMBER
            count(0) = 0; rule(1, true) = 0; rule(6, true) = 1; of(0, 0) = 1; of(1, 0) = 6; count(0) = 2; found(0) = 0
            """);
        Rows.run("8: each kind that may be",
            Rows.each(0, 6, r -> "rule(" + (r + 1) + ", false) = " + r) + Rows.each(0, 6, r -> "of(" + r + ", 0) = " + (r + 1)));
        Rows.run("8: FULL: there are 24", Rows.each(0, 23, r -> "rule(1, true) = " + r) + """
            count(0) = 23; of(23, 0) = FOUND; make(23) = NUMBER; rule(6, false) = 23; count(0) = 24; of(23, 0) = 6
            rule(1, true) = FULL; rule(6, false) = FULL; count(0) = 24; of(23, 0) = 6; of(23, 1) = 0; make(24) = NUMBER
            """);
        Rows.run("8: A RULE comes, without INPUTS",
            "rule(1, true) = 0; input(0, 3) = 1; rule(1, true) = 1; of(1, 2) = 0; of(1, 4) = -1; of(0, 2) = 1; of(1, 3) = 0; make(1) = 0");
        Rows.run("8: STRICT or LENIENT",
            "rule(1, true) = 0; rule(1, false) = 1; of(0, 1) = 1; of(1, 1) = 0; input(0, 0) = 1; input(1, 0) = 1; make(0) = -11\n"
            + "make(1) = 0");
    }

    private static void input() {
        Rows.run("9: NUMBER: there is no such RULE", "input(0, 0) = NUMBER; rule(1, true) = 0\n" + forNoSuchRule("input(#, 0) = NUMBER")
            + "of(0, 2) = 0; input(0, 0) = 1; rule(1, true) = 1; input(1, 0) = 1; input(2, 0) = NUMBER; found(0) = 0");
        Rows.run("9: NUMBER: name isn't 0 .. 39", """
            rule(1, true) = 0; input(0, -1) = NUMBER; input(0, 40) = NUMBER; input(0, 41) = NUMBER
            input(0, MAX) = NUMBER; input(0, MIN) = NUMBER
            of(0, 2) = 0; input(0, 0) = 1; input(0, 39) = 2; of(0, 4) = 0; of(0, 5) = 39; of(0, 6) = -1; found(0) = 0
            """);
        Rows.run("9: FULL: it has 6", """
            rule(1, true) = 0; input(0, 9) = 1; input(0, 8) = 2; input(0, 7) = 3; input(0, 6) = 4; input(0, 5) = 5
            of(0, 2) = 5; of(0, 9) = -1
            input(0, 4) = 6; input(0, 3) = FULL; input(0, 4) = FULL; of(0, 2) = 6; of(0, 9) = 4; of(0, 4) = 9; found(0) = 0
            // another one has room of its own
            rule(1, true) = 1; input(1, 3) = 1; of(1, 2) = 1
            """);
        Rows.run("9: NUMBER comes ahead of FULL",
            Rows.rule(0, 1, true, 0, 0, 0, 0, 0, 0) + "input(0, 40) = NUMBER; input(0, -1) = NUMBER; input(1, 0) = NUMBER\n"
            + "input(0, 39) = FULL; input(0, 0) = FULL");
        Rows.run("9: Its TRACES go", Rows.row(0, 5) + Rows.rule(0, 2, true, 0) + """
            make(0) = 1; set(0, 0, 6) = 1; make(0) = 1; of(0, 3) = 2; input(0, 0) = 2; of(0, 3) = 0; trace(0, 0, -1) = -1; count(3) = 0
            make(0) = 1; worked(0) = 0; part(0) = 12; stale(0, 0) = -1
            """);
        Rows.run("9: Its TRACES go, those of the others stay", Rows.row(0, 5) + Rows.rule(0, 2, true, 0) + Rows.rule(1, 2, true, 16)
            + "make(1) = 1; input(0, 0) = 2; of(0, 3) = 0; of(1, 3) = 1; make(1) = 1; part(0) = 10; stale(1, 0) = 0");
    }

    private static void names() {
        Rows.run("Terms 1: 0 .. 15 that SOURCE",
            Rows.each(0, 16, s -> "source(" + s + ", 1) = 1; set(" + s + ", 0, " + (s + 70) + ") = 1")
            + "rule(1, true) = 0; input(0, 0) = 1\n"
            + Rows.each(0, 16, s -> "turn(0, 0, " + s + ") = " + (s == 0 ? 0 : 1) + "; make(0) = 1; part(0) = " + (s + 70)));
        Rows.run("Terms 1: 16 .. 39 the RULE with that number less 16", Rows.row(0, 4) + "rule(2, true) = 0\n"
            + Rows.each(1, 24, r -> "rule(1, true) = " + r + "; input(" + r + ", " + (r % 2 == 0 ? 0 : 16) + ") = 1")
            + "rule(1, true) = FULL; input(0, 0) = 1\n"
            // 0 is looked into by 1, 3, 5 ..; by 2, 4 .. the source is
            + Rows.each(1, 24, r -> "make(" + r + ") = 1; part(0) = 4; trace(" + r + ", 0, 0) = " + (r % 2 == 0 ? 0 : 16))
            + "turn(0, 0, 39) = 1; turn(23, 0, 0) = 1; make(0) = 1; part(0) = 4; worked(0) = 0; worked(1) = 23; worked(2) = -1");
        Rows.run("Terms 1: (which may not be there yet)", Rows.row(0, 4) + Rows.rule(0, 1, false, 17) + """
            make(0) = 0; trace(0, 0, 0) = 17; rule(1, true) = 1; input(1, 0) = 1; make(0) = 1; part(0) = 4; stale(0, 0) = 0
            """);
        Rows.run("Terms 1: 4 NOBODY (the number and 16 of a RULE that isn't there)", """
            rule(1, true) = 0; input(0, 17) = 1; make(0) = -14; outcome(0) = 0; outcome(1) = 4; outcome(2) = 17
            turn(0, 0, 39) = 1; make(0) = -14; outcome(2) = 39
            // the one that is there is somebody, also if it is the last
            rule(1, true) = 1; turn(0, 0, 17) = 1; make(0) = 0; turn(0, 0, 18) = 1; make(0) = -14; outcome(2) = 18
            """);
        Rows.run("Terms 1: 1 NONE (the name: the SOURCE that is MISSING)", """
            rule(1, true) = 0; input(0, 0) = 1; make(0) = -11; outcome(0) = 0; outcome(1) = 1; outcome(2) = 0
            turn(0, 0, 15) = 1; make(0) = -11; outcome(1) = 1; outcome(2) = 15; source(15, 0) = 0; make(0) = 0
            outcome(1) = 0; outcome(2) = 0
            miss(15) = 1; make(0) = -11; outcome(2) = 15
            """);
    }

    private static void turn() {
        String one = Rows.row(0, 5) + Rows.row(1, 6) + Rows.rule(0, 1, true, 0, 1) + "make(0) = 2\n";
        Rows.run("10: NUMBER: there is no such RULE",
            "turn(0, 0, 0) = NUMBER\n" + one + forNoSuchRule("turn(#, 0, 1) = NUMBER") + "of(0, 4) = 0; of(0, 3) = 1; turn(0, 0, 1) = 1\n"
            + "found(0) = 0");
        Rows.run("10: NUMBER: it has no INPUT i",
            "rule(1, true) = 0; turn(0, 0, 0) = NUMBER; of(0, 2) = 0; input(0, 3) = 1; turn(0, 1, 3) = NUMBER; turn(0, 0, 4) = 1\n"
            + "turn(0, -1, 3) = NUMBER; turn(0, MAX, 3) = NUMBER; turn(0, MIN, 3) = NUMBER; of(0, 2) = 1; of(0, 4) = 4; found(0) = 0");
        Rows.run("10: NUMBER: it has no INPUT i, of 6",
            Rows.rule(0, 1, true, 0, 1, 2, 3, 4, 5) + "turn(0, 6, 9) = NUMBER; turn(0, 5, 9) = 1; turn(0, 0, 8) = 1\n"
            + "turn(0, -1, 9) = NUMBER\n" + "of(0, 4) = 8; of(0, 5) = 1; of(0, 6) = 2; of(0, 7) = 3; of(0, 8) = 4; of(0, 9) = 9\n"
            + "of(0, 2) = 6");
        Rows.run("10: NUMBER: name isn't 0 .. 39", one + """
            turn(0, 0, -1) = NUMBER; turn(0, 0, 40) = NUMBER; turn(0, 0, MAX) = NUMBER; turn(0, 0, MIN) = NUMBER; of(0, 4) = 0; of(0, 3) = 1
            turn(0, 1, 0) = 1; of(0, 5) = 0; turn(0, 0, 39) = 1; of(0, 4) = 39; found(0) = 0
            """);
        Rows.run("10: 0 if it is the same (then its TRACES stay",
            one + "turn(0, 0, 0) = 0; turn(0, 1, 1) = 0; of(0, 3) = 1; of(0, 4) = 0; of(0, 5) = 1; make(0) = 2; worked(0) = -1\n"
            + "stale(0, 0) = -2");
        Rows.run("10: else they go)", one + """
            set(0, 0, 7) = 1; make(0) = 2; of(0, 3) = 2; turn(0, 0, 1) = 1; of(0, 3) = 0; count(3) = 0
            // also when it is turned back
            turn(0, 0, 0) = 1; of(0, 3) = 0; make(0) = 2; worked(0) = 0; stale(0, 0) = -1
            """);
        Rows.run("10: else they go), those of the others stay",
            one + Rows.rule(1, 1, true, 16) + "make(1) = 2; turn(0, 0, 1) = 1; of(0, 3) = 0; of(1, 3) = 1");
        Rows.run("10: INPUT i alone is another one, to what another INPUT is",
            one + "turn(0, 0, 1) = 1; of(0, 4) = 1; of(0, 5) = 1; make(0) = 2; part(0) = 6; part(1) = 6");
    }

    private static void become() {
        String one = Rows.row(0, 5, 4) + Rows.rule(0, 1, true, 0) + "make(0) = 2\n";
        Rows.run("11: NUMBER: there is no such RULE",
            "become(0, 1, true) = NUMBER\n" + one + forNoSuchRule("become(#, 2, false) = NUMBER") + "of(0, 0) = 1; of(0, 1) = 1\n"
            + "of(0, 3) = 1; become(0, 2, false) = 1; found(0) = 0");
        Rows.run("11: NUMBER: kind isn't 1 .. 6", one + """
            become(0, 0, false) = NUMBER; become(0, 7, false) = NUMBER; become(0, -1, false) = NUMBER
            become(0, MAX, false) = NUMBER; become(0, MIN, false) = NUMBER
            of(0, 0) = 1; of(0, 1) = 1; of(0, 3) = 1; become(0, 6, true) = 1; of(0, 0) = 6; become(0, 1, true) = 1
            of(0, 0) = 1; found(0) = 0
            """);
        Rows.run("11: another one (its TRACES go)",
            one + "become(0, 3, true) = 1; of(0, 3) = 0; of(0, 2) = 1; of(0, 4) = 0; make(0) = 2; worked(0) = 0; part(0) = 4\n"
            + "stale(0, 0) = -1");
        Rows.run("11: or the same (its TRACES go): 1",
            one + "become(0, 1, true) = 1; of(0, 0) = 1; of(0, 1) = 1; of(0, 3) = 0; make(0) = 2; worked(0) = 0; stale(0, 0) = -1");
        Rows.run("11: the same, but LENIENT, and STRICT again",
            one + "become(0, 1, false) = 1; of(0, 1) = 0; of(0, 3) = 0; miss(0) = 1; make(0) = 0; become(0, 1, true) = 1; of(0, 1) = 1\n"
            + "of(0, 3) = 0; make(0) = -11");
        Rows.run("11: its TRACES go, those of the others stay",
            one + Rows.rule(1, 1, true, 16) + "make(1) = 2; become(0, 1, true) = 1; of(0, 3) = 0; of(1, 3) = 1");
    }

    private static void forget() {
        String one = Rows.row(0, 0) + Rows.rule(0, 1, true, 0);
        Rows.run("12: NUMBER: there is no such RULE",
            "forget(0) = NUMBER\n" + one + "make(0) = 1\n" + forNoSuchRule("forget(#) = NUMBER") + "of(0, 3) = 1; found(0) = 0");
        for (int many = 0; many <= 6; many++) {
            // there are 4 at most
            Rows.run("12: The TRACES of a RULE go: how many, of " + many + " that came",
                one + Rows.each(0, many, v -> "set(0, 0, " + v + ") = 1; make(0) = 1; worked(0) = 0") + "of(0, 3) = " + Math.min(4, many)
                + "; forget(0) = " + Math.min(4, many) + "; of(0, 3) = 0; count(3) = 0; trace(0, 0, -1) = -1; forget(0) = 0; make(0) = 1\n"
                + "worked(0) = 0; stale(0, 0) = -1");
        }
        Rows.run("12: those of the others stay",
            one + Rows.rule(1, 1, true, 16) + "make(1) = 1; forget(1) = 1; of(0, 3) = 1; of(1, 3) = 0; make(1) = 1; worked(0) = 1\n"
            + "worked(1) = -1; forget(0) = 1; of(1, 3) = 1");
    }

    private static void of() {
        Rows.run("13: NUMBER: what isn't 0 .. 9", Rows.rule(0, 5, true, 1, 2, 3, 4, 5, 6) + """
            of(0, -1) = NUMBER; of(0, 10) = NUMBER; of(0, MAX) = NUMBER; of(0, MIN) = NUMBER; found(0) = 0; of(0, 0) = 5; of(0, 9) = 6
            """);
        Rows.run("13: (looked at first)",
            "of(0, -1) = NUMBER; of(0, 10) = NUMBER; of(-1, 10) = NUMBER; of(24, -1) = NUMBER; found(0) = 0; of(0, 0) = FOUND\n"
            + "of(0, 9) = FOUND; found(2) = 2");
        Rows.run("13: BEYOND: there is no such RULE",
            "rule(1, true) = 0\n" + forNoSuchRule("of(#, 0) = FOUND") + "found(0) = 2; found(2) = 6; of(0, 0) = 1; rule(1, true) = 1\n"
            + "of(1, 0) = 1; of(2, 3) = FOUND; found(2) = 7");
        Rows.run("13: 4 + i its INPUT i (-1 without)",
            "rule(1, true) = 0\n"
            + Rows.each(0, 6, i -> "of(0, " + (4 + i) + ") = -1; input(0, " + (10 + i) + ") = " + (i + 1)
                + "; of(0, " + (4 + i) + ") = " + (10 + i) + "; of(0, 2) = " + (i + 1))
            + "found(0) = 0");
        Rows.run("13: 3 how many TRACES", Rows.row(0, 0) + Rows.rule(0, 1, true, 0) + "of(0, 3) = 0\n"
            + Rows.each(1, 7, v -> "set(0, 0, " + v + ") = 1; make(0) = 1; of(0, 3) = " + Math.min(4, v)));
        Rows.run("13: 1 1 if it is STRICT", "rule(1, true) = 0; of(0, 1) = 1; rule(1, false) = 1; of(1, 1) = 0");
    }

    private static void trace() {
        String one = Rows.row(0, 3) + Rows.row(1, 4) + Rows.rule(0, 1, true, 1, 0) + "make(0) = 2\n";
        Rows.run("14: -1 if there is none such (RULE",
            "trace(0, 0, -1) = -1\n" + one + forNoSuchRule("trace(#, 0, -1) = -1; trace(#, 0, 0) = -1")
            + "trace(0, 0, -1) = 2; trace(0, 0, 0) = 1; found(0) = 0");
        Rows.run("14: -1 if there is none such (TRACE",
            one + "trace(0, 1, -1) = -1; trace(0, 1, 0) = -1; trace(0, -1, -1) = -1; trace(0, -1, 0) = -1; trace(0, MAX, -1) = -1\n"
            + "trace(0, MIN, -1) = -1\n" + "set(0, 0, 9) = 1; make(0) = 2; trace(0, 1, -1) = 2; trace(0, 1, 0) = 1; trace(0, 2, -1) = -1\n"
            + "trace(0, 2, 0) = -1; forget(0) = 2; trace(0, 0, -1) = -1; trace(0, 0, 0) = -1");
        Rows.run("14: -1 if there is none such (TRACE, of four", one + Rows.each(5, 10, v -> "set(0, 0, " + v + ") = 1; make(0) = 2")
            + "trace(0, 3, -1) = 2; trace(0, 3, 1) = 0; trace(0, 4, -1) = -1; trace(0, 4, 0) = -1; trace(0, 5, -1) = -1");
        Rows.run("14: -1 if there is none such (.. READ)",
            one + "trace(0, 0, 0) = 1; trace(0, 0, 1) = 0; trace(0, 0, 2) = -1; trace(0, 0, -2) = -1; trace(0, 0, MAX) = -1\n"
            + "trace(0, 0, MIN) = -1; found(0) = 0");
        Rows.run("14: i = -1: how many READS, if there are none",
            "rule(1, true) = 0; make(0) = 0; of(0, 3) = 1; trace(0, 0, -1) = 0; trace(0, 0, 0) = -1");
        Rows.run("14: how many READS, at the most that may be",
            Rows.row(0) + "source(1, 12) = 12\n" + Rows.rule(0, 1, true, 1, 1) + Rows.rule(1, 6, true, 16, 0) + "make(1) = 0\n"
            + "trace(1, 0, -1) = 25; trace(1, 0, 0) = 16; trace(1, 0, 1) = 0; trace(1, 0, 24) = 0; trace(1, 0, 25) = -1");
        Rows.run("14: a READ of a RULE bears its name, not its number",
            Rows.rule(0, 1, true, 17) + "rule(1, true) = 1; make(0) = 0; trace(0, 0, 0) = 17");
        // FIRST: as many reads as there are empty rows, and one
        String first = Rows.row(0) + Rows.row(1) + Rows.row(2) + Rows.rule(0, 4, true, 0, 1, 2);
        Rows.run("14: by when they were used, the latest first", first + """
            make(0) = 0; source(1, 1) = 1; make(0) = 1; source(0, 1) = 1; make(0) = 1; trace(0, 0, -1) = 1
            trace(0, 1, -1) = 2; trace(0, 2, -1) = 3
            source(0, 0) = 0; make(0) = 1; worked(0) = -1; trace(0, 0, -1) = 2; trace(0, 1, -1) = 1; trace(0, 2, -1) = 3
            source(1, 0) = 0; make(0) = 0; worked(0) = -1; trace(0, 0, -1) = 3; trace(0, 1, -1) = 2; trace(0, 2, -1) = 1
            // the first again: the order stays
            make(0) = 0; trace(0, 0, -1) = 3; trace(0, 1, -1) = 2; trace(0, 2, -1) = 1; trace(0, 3, -1) = -1
            """);
    }
}

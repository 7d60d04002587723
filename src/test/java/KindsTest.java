/** How a rule works by its kind, strict and lenient: the terms behind promises 15, 17 and 18. */
public final class KindsTest {
    // sources: 0 is 3 1, 1 is empty, 2 is -2 5, 3 is missing
    private static final String SOURCES = """
        source(0, 2) = 2; set(0, 0, 3) = 1; set(0, 1, 1) = 1; source(1, 0) = 0
        source(2, 2) = 2; set(2, 0, -2) = 1; set(2, 1, 5) = 1
        """;

    public static void main(String[] args) {
        join();
        sum();
        sort();
        first();
        pick();
        table();
        tooLong();
        nobody();
        Rows.end();
    }

    private static void join() {
        Rows.run("JOIN", SOURCES + """
            rule(1, true) = 0; make(0) = 0; outcome(0) = 0; outcome(1) = 0; trace(0, 0, -1) = 0
            input(0, 2) = 1; input(0, 1) = 2; input(0, 0) = 3; input(0, 2) = 4
            make(0) = 6; part(0) = -2; part(1) = 5; part(2) = 3; part(3) = 1; part(4) = -2; part(5) = 5; part(6) = 0
            trace(0, 0, -1) = 4; turn(0, 1, 3) = 1
            make(0) = -11; outcome(0) = 0; outcome(1) = 1; outcome(2) = 3; part(0) = 0; trace(0, 0, -1) = 2
            become(0, 1, false) = 1; make(0) = 6; outcome(1) = 0; outcome(2) = 0; part(2) = 3; trace(0, 0, -1) = 4
            """);
    }

    private static void sum() {
        Rows.run("SUM", SOURCES + """
            rule(2, true) = 0; make(0) = 1; part(0) = 0
            input(0, 0) = 1; input(0, 2) = 2; input(0, 1) = 3; make(0) = 1; part(0) = 7; part(1) = 0
            set(0, 0, MAX) = 1; make(0) = 1; part(0) = -2147483645
            input(0, 3) = 4; make(0) = -11; outcome(2) = 3; become(0, 2, false) = 1; make(0) = 1; part(0) = -2147483645
            """);
        Rows.run("SUM is never LONG", """
            source(0, 16) = 16; set(0, 15, 2) = 1; rule(2, true) = 0
            input(0, 0) = 1; input(0, 0) = 2; input(0, 0) = 3; input(0, 0) = 4; input(0, 0) = 5; input(0, 0) = 6
            make(0) = 1; part(0) = 12; trace(0, 0, -1) = 6
            """);
    }

    private static void sort() {
        Rows.run("SORT", SOURCES + """
            rule(3, true) = 0; make(0) = 0; input(0, 0) = 1; input(0, 2) = 2; input(0, 0) = 3
            make(0) = 6; part(0) = -2; part(1) = 1; part(2) = 1; part(3) = 3; part(4) = 3; part(5) = 5
            set(0, 0, MIN) = 1; set(2, 0, MAX) = 1
            make(0) = 6; part(0) = MIN; part(1) = MIN; part(2) = 1; part(4) = 5; part(5) = MAX; told(0, 0) = MIN; told(2, 0) = MAX
            turn(0, 0, 3) = 1; make(0) = -11; trace(0, 0, -1) = 1; become(0, 3, false) = 1; make(0) = 4; part(0) = MIN; part(3) = MAX
            """);
    }

    private static void first() {
        Rows.run("FIRST", SOURCES + """
            rule(4, true) = 0; make(0) = 0; trace(0, 0, -1) = 0
            input(0, 1) = 1; make(0) = 0; trace(0, 0, -1) = 1
            input(0, 2) = 2; input(0, 3) = 3; make(0) = 2; part(0) = -2; part(1) = 5; trace(0, 0, -1) = 2
            source(2, 0) = 0; make(0) = -11; trace(0, 0, -1) = 3
            become(0, 4, false) = 1; make(0) = 0; input(0, 0) = 4; make(0) = 2; part(0) = 3; part(1) = 1; trace(0, 0, -1) = 4
            """);
        Rows.run("FIRST hands on 24 ints", """
            source(0, 12) = 12; rule(1, true) = 0; input(0, 0) = 1; input(0, 0) = 2
            rule(4, true) = 1; input(1, 16) = 1; input(1, 16) = 2; make(1) = 24; trace(1, 0, -1) = 1
            """);
    }

    private static void pick() {
        Rows.run("PICK", SOURCES + """
            rule(5, true) = 0; make(0) = 0; trace(0, 0, -1) = 0
            input(0, 0) = 1; make(0) = 0; trace(0, 0, -1) = 1
            input(0, 1) = 2; input(0, 2) = 3; make(0) = 2; part(0) = -2; trace(0, 0, -1) = 2; trace(0, 0, 0) = 0; trace(0, 0, 1) = 2
            // 3 others: 3 modulo 3 is 0, and -2 modulo 3 is 1
            input(0, 0) = 4; make(0) = 0; trace(0, 0, 1) = 1; set(0, 0, -2) = 1; make(0) = 2; part(1) = 5; trace(0, 0, 1) = 2
            set(0, 0, MIN) = 1; make(0) = 2; part(0) = -2; set(0, 0, MAX) = 1; make(0) = 2; part(0) = -2; trace(0, 0, 1) = 2
            set(0, 0, -1) = 1; make(0) = 2; part(0) = -1; trace(0, 0, 1) = 0
            turn(0, 0, 1) = 1; make(0) = 0; trace(0, 0, -1) = 1
            """);
        Rows.run("PICK of what fails", SOURCES + """
            rule(5, true) = 0; input(0, 3) = 1; input(0, 0) = 2; make(0) = -11; trace(0, 0, -1) = 1
            become(0, 5, false) = 1; make(0) = 0; trace(0, 0, -1) = 1
            turn(0, 0, 0) = 1; turn(0, 1, 3) = 1; make(0) = 0; trace(0, 0, -1) = 2
            become(0, 5, true) = 1; make(0) = -11; outcome(2) = 3; trace(0, 0, -1) = 2
            """);
    }

    private static void table() {
        Rows.run("TABLE", SOURCES + """
            rule(6, true) = 0; make(0) = 0; trace(0, 0, -1) = 0
            input(0, 0) = 1; make(0) = 0; trace(0, 0, -1) = 1
            // 3 1 with two others reads the second one twice
            input(0, 0) = 2; input(0, 2) = 3
            make(0) = 4; part(0) = -2; part(1) = 5; part(2) = -2; part(3) = 5; trace(0, 0, -1) = 3; trace(0, 0, 1) = 2; trace(0, 0, 2) = 2
            set(0, 0, -2) = 1; make(0) = 4; part(0) = -2; part(1) = 1; part(2) = -2; part(3) = 5; trace(0, 0, 1) = 0; trace(0, 0, 2) = 2
            turn(0, 0, 1) = 1; make(0) = 0; trace(0, 0, -1) = 1
            """);
        Rows.run("TABLE of what fails", SOURCES + """
            rule(6, true) = 0; input(0, 0) = 1; input(0, 2) = 2; input(0, 3) = 3
            make(0) = -11; trace(0, 0, -1) = 2; become(0, 6, false) = 1; make(0) = 0; trace(0, 0, -1) = 3
            set(0, 1, 0) = 1; make(0) = 2; part(0) = -2; trace(0, 0, -1) = 3
            turn(0, 0, 3) = 1; make(0) = 0; trace(0, 0, -1) = 1; become(0, 6, true) = 1; make(0) = -11; trace(0, 0, -1) = 1
            """);
        Rows.run("TABLE with the most reads", """
            source(0, 12) = 12; source(1, 1) = 1; set(1, 0, 6) = 1; rule(1, true) = 0; input(0, 0) = 1; input(0, 0) = 2
            rule(6, true) = 1; input(1, 16) = 1; input(1, 1) = 2
            make(1) = 24; part(0) = 6; part(23) = 6; part(24) = 0; trace(1, 0, -1) = 25; trace(1, 0, 24) = 1; trace(1, 0, 25) = -1
            make(1) = 24; worked(0) = -1; looked() = 27; set(1, 0, 7) = 1; make(1) = 24; part(23) = 7; stale(1, 0) = 1
            """);
    }

    private static void tooLong() {
        Rows.run("24 ints are not LONG, 25 are", """
            source(0, 8) = 8; source(1, 9) = 9; rule(1, true) = 0; rule(3, false) = 1
            input(0, 0) = 1; input(0, 0) = 2; input(0, 0) = 3; input(0, 5) = 4; input(0, 5) = 5
            input(1, 0) = 1; input(1, 0) = 2; input(1, 0) = 3; input(1, 5) = 4
            make(0) = -11; make(1) = 24; source(5, 0) = 0; make(0) = 24; make(1) = 24
            // it ends with the read that is too much, ahead of a missing source
            miss(5) = 1; turn(0, 2, 1) = 1; turn(1, 2, 1) = 1; make(0) = -12; outcome(0) = 0; outcome(1) = 2; outcome(2) = 0; part(0) = 0
            trace(0, 0, -1) = 3; make(1) = -12; outcome(2) = 1; trace(1, 0, -1) = 3
            """);
        Rows.run("a TABLE is LONG too, and its guide does not count", """
            source(0, 5) = 5; source(1, 8) = 8; rule(6, false) = 0; input(0, 0) = 1; input(0, 1) = 2
            make(0) = -12; outcome(2) = 0; trace(0, 0, -1) = 5
            source(0, 3) = 3; make(0) = 24; trace(0, 0, -1) = 4
            """);
        Rows.run("LONG goes with its name", """
            source(0, 13) = 13; rule(1, true) = 0; rule(1, true) = 1; input(1, 0) = 1; input(1, 0) = 2; input(0, 17) = 1
            rule(2, false) = 2; input(2, 16) = 1; input(2, 17) = 2
            make(0) = -12; outcome(1) = 2; outcome(2) = 1; make(2) = 1; part(0) = 0
            """);
    }

    private static void nobody() {
        Rows.run("NOBODY", """
            rule(1, true) = 0; input(0, 17) = 1; make(0) = -14; outcome(1) = 4; outcome(2) = 17; outcome(0) = 0
            become(0, 1, false) = 1; make(0) = 0; make(0) = 0; worked(0) = -1
            // when that rule comes, what was read no longer fits
            rule(2, true) = 1; make(0) = 1; part(0) = 0; stale(0, 0) = 0; worked(0) = 1; worked(1) = 0
            turn(0, 0, 39) = 1; become(0, 1, true) = 1; make(0) = -14; outcome(2) = 39
            """);
    }
}

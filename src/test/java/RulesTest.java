/** Promises 8 to 14: the rules, their inputs and their traces. */
public final class RulesTest {
    public static void main(String[] args) {
        rule();
        input();
        turn();
        become();
        forget();
        of();
        trace();
        Rows.end();
    }

    private static void rule() {
        StringBuilder all = new StringBuilder("rule(0, true) = NUMBER; rule(7, true) = NUMBER; rule(MAX, true) = NUMBER\n");
        for (int r = 0; r < 24; r++) {
            all.append("rule(").append(1 + r % 6).append(", ").append(r % 2 == 0).append(") = ").append(r).append('\n');
        }
        all.append("rule(1, true) = FULL; rule(6, false) = FULL; rule(0, true) = NUMBER; rule(MIN, true) = NUMBER; count(0) = 24\n");
        all.append("of(0, 0) = 1; of(0, 1) = 1; of(23, 0) = 6; of(23, 1) = 0; of(23, 2) = 0; of(23, 3) = 0\n");
        all.append("make(24) = NUMBER; input(24, 0) = NUMBER; forget(24) = NUMBER; of(24, 0) = FOUND; trace(24, 0, -1) = -1; stale(24, 0) = -1\n");
        Rows.run("8", all.toString());
    }

    private static void input() {
        Rows.run("9, ordinary", """
            rule(1, true) = 0
            input(0, 0) = 1; input(0, 39) = 2; input(0, 15) = 3; input(0, 16) = 4; input(0, 0) = 5; input(0, 20) = 6
            of(0, 4) = 0; of(0, 5) = 39; of(0, 6) = 15; of(0, 7) = 16; of(0, 8) = 0; of(0, 9) = 20
            input(0, 1) = FULL; input(0, 40) = NUMBER; input(0, -1) = NUMBER; of(0, 2) = 6
            """);
        Rows.run("9, refused", """
            input(0, 0) = NUMBER; rule(1, true) = 0; input(1, 0) = NUMBER; input(-1, 0) = NUMBER; input(24, 0) = NUMBER
            input(MAX, 0) = NUMBER; input(MIN, 0) = NUMBER
            input(0, -1) = NUMBER; input(0, 40) = NUMBER; input(0, MAX) = NUMBER; input(0, MIN) = NUMBER
            of(0, 2) = 0; found(0) = 0
            """);
        Rows.run("9, traces go", """
            source(0, 1) = 1; rule(2, true) = 0; input(0, 0) = 1; make(0) = 1; of(0, 3) = 1
            rule(2, true) = 1; input(1, 0) = 1; make(1) = 1
            input(0, 40) = NUMBER; of(0, 3) = 1
            input(0, 0) = 2; of(0, 3) = 0; of(1, 3) = 1
            make(0) = 1; worked(0) = 0; trace(0, 0, -1) = 2
            input(0, 0) = 3; input(0, 0) = 4; input(0, 0) = 5; input(0, 0) = 6; make(0) = 1; input(0, 0) = FULL; of(0, 3) = 1
            """);
    }

    private static void turn() {
        Rows.run("10", """
            source(0, 1) = 1; source(1, 2) = 2
            rule(1, true) = 0; input(0, 0) = 1; input(0, 0) = 2; make(0) = 2; of(0, 3) = 1
            turn(0, 0, 0) = 0; turn(0, 1, 0) = 0; of(0, 3) = 1
            turn(0, 2, 0) = NUMBER; turn(0, -1, 0) = NUMBER; turn(0, MAX, 0) = NUMBER; turn(0, MIN, 0) = NUMBER
            turn(1, 0, 0) = NUMBER; turn(-1, 0, 0) = NUMBER; turn(MAX, 0, 0) = NUMBER; turn(24, 0, 0) = NUMBER
            turn(0, 0, 40) = NUMBER; turn(0, 0, -1) = NUMBER; turn(0, 0, MIN) = NUMBER; of(0, 3) = 1
            turn(0, 1, 1) = 1; of(0, 3) = 0; of(0, 4) = 0; of(0, 5) = 1; of(0, 2) = 2; make(0) = 3
            turn(0, 0, 39) = 1; of(0, 4) = 39; make(0) = -14; found(0) = 0
            """);
    }

    private static void become() {
        Rows.run("11", """
            source(0, 2) = 2; set(0, 0, 4) = 1; set(0, 1, 3) = 1
            rule(1, true) = 0; input(0, 0) = 1; make(0) = 2; part(0) = 4; of(0, 3) = 1
            become(0, 0, true) = NUMBER; become(0, 7, true) = NUMBER; become(1, 1, true) = NUMBER; become(-1, 1, true) = NUMBER
            become(MAX, MAX, true) = NUMBER; of(0, 3) = 1; of(0, 0) = 1
            become(0, 3, true) = 1; of(0, 0) = 3; of(0, 1) = 1; of(0, 2) = 1; of(0, 3) = 0; make(0) = 2; part(0) = 3
            // the same kind drops its traces too
            become(0, 3, true) = 1; of(0, 3) = 0; make(0) = 2; worked(0) = 0
            become(0, 3, false) = 1; of(0, 1) = 0; of(0, 3) = 0; miss(0) = 1; make(0) = 0
            become(0, 3, true) = 1; of(0, 1) = 1; make(0) = -11
            become(0, 6, true) = 1; become(0, 1, true) = 1; of(0, 4) = 0
            """);
    }

    private static void forget() {
        Rows.run("12", """
            forget(0) = NUMBER; forget(-1) = NUMBER; forget(24) = NUMBER; forget(MAX) = NUMBER; forget(MIN) = NUMBER
            source(0, 1) = 1; rule(2, true) = 0; input(0, 0) = 1; forget(0) = 0
            make(0) = 1; forget(0) = 1; of(0, 3) = 0; forget(0) = 0
            make(0) = 1; worked(0) = 0; set(0, 0, 1) = 1; make(0) = 1; set(0, 0, 2) = 1; make(0) = 1; set(0, 0, 3) = 1; make(0) = 1
            set(0, 0, 4) = 1; make(0) = 1; forget(0) = 4; count(3) = 0; found(0) = 0
            // what is there again is not one of those that went
            make(0) = 1; part(0) = 4; of(0, 3) = 1; trace(0, 0, -1) = 1; trace(0, 1, -1) = -1; set(0, 0, 3) = 1; make(0) = 1; worked(0) = 0
            """);
    }

    private static void of() {
        Rows.run("13", """
            of(0, -1) = NUMBER; of(0, 10) = NUMBER; of(-1, MAX) = NUMBER; of(0, MIN) = NUMBER; found(0) = 0
            of(0, 0) = FOUND; of(0, 9) = FOUND; of(-1, 0) = FOUND; of(24, 3) = FOUND; of(MAX, 4) = FOUND; of(MIN, 4) = FOUND
            found(0) = 2; found(2) = 6
            rule(5, false) = 0; rule(2, true) = 1
            of(0, 0) = 5; of(0, 1) = 0; of(0, 2) = 0; of(0, 3) = 0; of(0, 4) = -1; of(0, 9) = -1; of(1, 0) = 2; of(1, 1) = 1
            input(1, 7) = 1; of(1, 2) = 1; of(1, 4) = 7; of(1, 5) = -1; source(7, 0) = 0; make(1) = 1; of(1, 3) = 1
            of(2, 0) = FOUND; found(2) = 7; of(1, 10) = NUMBER; found(2) = 7
            """);
    }

    private static void trace() {
        Rows.run("14, reads", """
            source(0, 1) = 1; source(1, 1) = 1; source(2, 0) = 0
            rule(4, true) = 0; input(0, 2) = 1; input(0, 17) = 2; input(0, 1) = 3; rule(1, true) = 1; input(1, 0) = 1
            trace(0, 0, -1) = -1; trace(0, 0, 0) = -1
            make(0) = 1
            // FIRST ended at its second input
            trace(0, 0, -1) = 2; trace(0, 0, 0) = 2; trace(0, 0, 1) = 17; trace(0, 0, 2) = -1; trace(0, 0, -2) = -1
            trace(0, 0, MAX) = -1; trace(0, 0, MIN) = -1; trace(0, 1, -1) = -1; trace(0, -1, -1) = -1; trace(0, MAX, 0) = -1
            trace(0, MIN, 0) = -1; trace(1, 0, -1) = 1; trace(1, 0, 0) = 0; trace(2, 0, -1) = -1; trace(-1, 0, -1) = -1
            trace(MAX, 0, 0) = -1; trace(MIN, 0, 0) = -1; found(0) = 0
            """);
        // FIRST keeps traces of different lengths, so that their order can be seen
        Rows.run("14, the latest used first, and four of them", """
            rule(4, true) = 0; input(0, 0) = 1; input(0, 1) = 2; input(0, 2) = 3; input(0, 3) = 4; input(0, 4) = 5
            source(0, 0) = 0; source(1, 0) = 0; source(2, 0) = 0; source(3, 0) = 0; source(4, 0) = 0
            make(0) = 0; trace(0, 0, -1) = 5
            source(3, 1) = 1; make(0) = 1; trace(0, 0, -1) = 4; trace(0, 1, -1) = 5
            source(2, 1) = 1; make(0) = 1; trace(0, 0, -1) = 3; trace(0, 1, -1) = 4; trace(0, 2, -1) = 5
            source(1, 1) = 1; make(0) = 1; of(0, 3) = 4
            trace(0, 0, -1) = 2; trace(0, 1, -1) = 3; trace(0, 2, -1) = 4; trace(0, 3, -1) = 5
            // one that fits comes to the front
            source(1, 0) = 0; source(2, 0) = 0; source(3, 0) = 0; make(0) = 0; worked(0) = -1
            trace(0, 0, -1) = 5; trace(0, 1, -1) = 2; trace(0, 2, -1) = 3; trace(0, 3, -1) = 4
            // a fifth: the one used the longest time ago (of four reads) goes
            source(0, 1) = 1; make(0) = 1; worked(0) = 0; of(0, 3) = 4; count(3) = 4
            trace(0, 0, -1) = 1; trace(0, 1, -1) = 5; trace(0, 2, -1) = 2; trace(0, 3, -1) = 3; trace(0, 4, -1) = -1
            source(0, 0) = 0; source(3, 1) = 1; make(0) = 1; worked(0) = 0
            trace(0, 0, -1) = 4; trace(0, 1, -1) = 1; trace(0, 2, -1) = 5; trace(0, 3, -1) = 2
            // the last of four fits
            source(1, 1) = 1; make(0) = 1; worked(0) = -1
            trace(0, 0, -1) = 2; trace(0, 1, -1) = 4; trace(0, 2, -1) = 1; trace(0, 3, -1) = 5
            """);
    }
}

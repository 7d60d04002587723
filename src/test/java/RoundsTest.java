/** Promises 15 to 23: the rounds, and what is told of the latest one. */
public final class RoundsTest {
    public static void main(String[] args) {
        make();
        anew();
        outcomeAndPart();
        ring();
        rings();
        worked();
        looked();
        stale();
        count();
        failuresInTraces();
        deepest();
        broadest();
        Rows.end();
    }

    private static void make() {
        Rows.run("15", """
            make(0) = NUMBER; rule(1, true) = 0; make(1) = NUMBER; make(-1) = NUMBER; make(24) = NUMBER; make(MAX) = NUMBER
            make(MIN) = NUMBER; count(1) = 0; outcome(0) = -1
            make(0) = 0; input(0, 2) = 1; make(0) = -11; source(2, 16) = 16; make(0) = 16; input(0, 2) = 2; make(0) = -12
            turn(0, 1, 16) = 1; make(0) = -13; turn(0, 1, 17) = 1; make(0) = -14; count(1) = 6
            """);
        Rows.run("15, a refused one changes nothing", """
            source(0, 1) = 1; set(0, 0, 9) = 1; rule(1, true) = 0; input(0, 0) = 1; make(0) = 1; set(0, 0, 8) = 1; make(0) = 1
            make(5) = NUMBER; anew(5) = NUMBER; outcome(0) = 1; part(0) = 8; worked(0) = 0; looked() = 1; stale(0, 0) = 0; count(1) = 2
            """);
        Rows.run("15, a name is made once in a round", """
            source(0, 1) = 1; rule(1, true) = 0; input(0, 0) = 1
            rule(1, true) = 1; input(1, 16) = 1; input(1, 16) = 2; make(1) = 2; worked(0) = 1; worked(1) = 0; worked(2) = -1
            make(1) = 2; looked() = 3; trace(1, 0, -1) = 2
            """);
    }

    private static void anew() {
        Rows.run("16", """
            anew(0) = NUMBER; source(0, 1) = 1; rule(1, true) = 0; input(0, 0) = 1; rule(2, true) = 1; input(1, 16) = 1; anew(-1) = NUMBER
            anew(1) = 1; outcome(0) = 1; part(0) = 0; count(1) = 0; count(2) = 0; count(3) = 0; worked(0) = -1; looked() = 0
            make(1) = 1; set(0, 0, 4) = 1; make(1) = 1; count(2) = 4; looked() = 2; stale(0, 0) = 0; stale(1, 0) = 0
            set(0, 0, 6) = 1; anew(1) = 1; part(0) = 6
            worked(0) = 0; worked(1) = 1; looked() = 2; stale(0, 0) = 0; stale(1, 0) = 0; count(1) = 2; count(2) = 4; count(3) = 4
            // nothing was used by it either: the order of the traces stays
            set(0, 0, 0) = 1; anew(1) = 1; part(0) = 0; set(0, 0, 4) = 1; make(1) = 1; stale(0, 0) = -2; looked() = 2; count(3) = 4
            miss(0) = 1; anew(1) = -11; outcome(1) = 1; outcome(2) = 0; turn(0, 0, 17) = 1; anew(1) = -13; ring(0) = 0; ring(1) = 1
            of(1, 3) = 2; anew(7) = NUMBER; ring(1) = 1; outcome(2) = 0
            """);
    }

    private static void outcomeAndPart() {
        Rows.run("17 and 18", """
            outcome(0) = -1; outcome(3) = -1; part(0) = 0
            source(0, 2) = 2; set(0, 0, 7) = 1; set(0, 1, 8) = 1; rule(1, true) = 0; input(0, 0) = 1; make(0) = 2
            outcome(0) = 2; outcome(1) = 0; outcome(2) = 0; outcome(3) = -1; outcome(-1) = -1; outcome(MAX) = -1; outcome(MIN) = -1
            part(0) = 7; part(1) = 8; part(2) = 0; part(-1) = 0; part(MAX) = 0; part(MIN) = 0
            // it stays what it was when it was made
            set(0, 0, 1) = 1; forget(0) = 1; part(0) = 7; miss(0) = 1; part(0) = 7; outcome(0) = 2
            turn(0, 0, 5) = 1; make(0) = -11; outcome(0) = 0; outcome(1) = 1; outcome(2) = 5; part(0) = 0
            """);
    }

    private static void ring() {
        Rows.run("19", """
            ring(0) = -1; rule(1, true) = 0; rule(1, false) = 1; rule(1, false) = 2; rule(2, true) = 3; rule(2, false) = 4
            input(1, 18) = 1; input(2, 17) = 1; input(3, 18) = 1; input(4, 19) = 1
            // asked from outside, the ring is still named by those that are in it
            make(3) = -13; outcome(1) = 3; outcome(2) = 1; ring(0) = 1; ring(1) = 2; ring(2) = -1; ring(-1) = -1; ring(MAX) = -1; ring(MIN) = -1
            make(4) = 1; ring(0) = -1; make(2) = -13; outcome(2) = 1; ring(0) = 1; ring(1) = 2
            make(0) = 0; ring(0) = -1; input(0, 0) = 1; make(0) = -11; ring(0) = -1
            """);
        Rows.run("19, of a trace that fits: the ring that is there now", """
            rule(1, true) = 0; rule(1, true) = 1; rule(1, true) = 2; rule(1, true) = 3
            input(0, 17) = 1; input(1, 16) = 1; input(2, 16) = 1; input(3, 16) = 1
            make(3) = -13; ring(0) = 0; ring(1) = 1; ring(2) = -1; turn(0, 0, 18) = 1
            make(3) = -13; worked(0) = 0; worked(1) = 2; worked(2) = -1; stale(3, 0) = -2; outcome(2) = 0
            ring(0) = 0; ring(1) = 2; ring(2) = -1
            """);
        Rows.run("19, two rings in one round", """
            rule(1, true) = 0; input(0, 16) = 1; rule(1, true) = 1; rule(1, true) = 2; input(1, 18) = 1; input(2, 17) = 1
            rule(1, false) = 3; input(3, 16) = 1; rule(1, true) = 4; input(4, 19) = 1; input(4, 17) = 2
            make(4) = -13; outcome(2) = 1; ring(0) = 1; ring(1) = 2; ring(2) = -1
            """);
    }

    private static void rings() {
        Rows.run("a lenient one in a ring fails too, and keeps no trace", """
            rule(1, false) = 0; input(0, 16) = 1; make(0) = -13; ring(0) = 0; ring(1) = -1; of(0, 3) = 0; worked(0) = 0; count(2) = 1
            make(0) = -13; worked(0) = 0; count(2) = 2
            """);
        Rows.run("only those opened since are in it, and one closed ahead isn't", """
            source(0, 1) = 1; rule(1, true) = 0; input(0, 0) = 1
            rule(1, true) = 1; rule(1, true) = 2; rule(1, false) = 3
            input(1, 16) = 1; input(1, 18) = 2; input(2, 17) = 1; input(3, 18) = 1; input(3, 16) = 2
            make(3) = 1; ring(0) = -1; of(0, 3) = 1; of(1, 3) = 0; of(2, 3) = 0; of(3, 3) = 1; trace(3, 0, -1) = 2
            worked(0) = 3; worked(1) = 2; worked(2) = 1; worked(3) = 0; worked(4) = -1
            """);
        Rows.run("one closed ahead isn't in it, also if the ring is asked from within", """
            rule(1, true) = 0; input(0, 18) = 1; input(0, 17) = 2; rule(1, true) = 1; input(1, 16) = 1; rule(1, true) = 2
            make(0) = -13; ring(0) = 0; ring(1) = 1; ring(2) = -1; of(2, 3) = 1
            """);
        Rows.run("who is hit reads no further", """
            rule(1, false) = 0; input(0, 17) = 1; input(0, 18) = 2; rule(1, false) = 1; input(1, 16) = 1; input(1, 18) = 2; rule(1, false) = 2
            make(0) = -13; worked(0) = 0; worked(1) = 1; worked(2) = -1
            """);
        Rows.run("a strict one behind a ring ends with it and keeps that", """
            rule(1, true) = 0; input(0, 16) = 1; rule(1, true) = 1; input(1, 16) = 1; input(1, 0) = 2
            make(1) = -13; trace(1, 0, -1) = 1; trace(1, 0, 0) = 16; of(1, 3) = 1; make(1) = -13; worked(0) = 0; worked(1) = -1
            looked() = 1; stale(1, 0) = -2
            """);
        Rows.run("hit while looked at", """
            source(0, 1) = 1; rule(1, true) = 0; input(0, 17) = 1; rule(1, true) = 1; input(1, 0) = 1; make(0) = 1; of(0, 3) = 1
            turn(1, 0, 16) = 1; make(0) = -13; stale(0, 0) = -1; looked() = 1; worked(0) = 1; worked(1) = -1; ring(0) = 0; ring(1) = 1
            // what it had kept is still there
            of(0, 3) = 1; of(1, 3) = 0; turn(1, 0, 0) = 1; make(0) = 1; stale(0, 0) = -2; worked(0) = 1; worked(1) = -1
            """);
        Rows.run("hit in its second trace", """
            source(0, 1) = 1; source(1, 1) = 1; rule(1, true) = 0; input(0, 0) = 1; input(0, 17) = 2; rule(1, true) = 1; input(1, 1) = 1
            make(0) = 2; set(0, 0, 5) = 1; make(0) = 2; set(0, 0, 0) = 1; turn(1, 0, 16) = 1
            make(0) = -13; stale(0, 0) = 0; stale(0, 1) = -1; stale(0, 2) = -1; looked() = 3; worked(0) = 1; of(0, 3) = 2
            // and hit when it is worked, behind traces that do not fit
            set(0, 0, 8) = 1; make(0) = -13; stale(0, 0) = 0; stale(0, 1) = 0; looked() = 2; worked(0) = 0; worked(1) = 1; of(0, 3) = 2
            """);
    }

    private static void worked() {
        Rows.run("20", """
            worked(0) = -1; source(0, 1) = 1; rule(1, true) = 0; input(0, 0) = 1; rule(1, true) = 1; rule(1, true) = 2
            input(1, 18) = 1; input(1, 16) = 2; input(2, 16) = 1
            make(1) = 2; worked(0) = 1; worked(1) = 2; worked(2) = 0; worked(3) = -1; worked(-1) = -1; worked(MAX) = -1; worked(MIN) = -1
            make(1) = 2; worked(0) = -1
            // looked at first, it is behind what it had read
            set(0, 0, 1) = 1; make(1) = 2; worked(0) = 0; worked(1) = 2; worked(2) = 1; worked(3) = -1
            make(9) = NUMBER; worked(0) = 0
            """);
    }

    private static void looked() {
        Rows.run("21", """
            looked() = 0; source(0, 1) = 1; source(1, 1) = 1; source(2, 1) = 1; rule(1, true) = 0; input(0, 0) = 1; input(0, 1) = 2; input(0, 2) = 3
            make(0) = 3; looked() = 0; make(0) = 3; looked() = 3
            set(1, 0, 1) = 1; make(0) = 3; looked() = 2
            // two traces: the first differs at its second read, the other one fits
            set(1, 0, 0) = 1; make(0) = 3; looked() = 5; set(0, 0, 1) = 1; make(0) = 3; looked() = 2; make(4) = NUMBER; looked() = 2
            """);
    }

    private static void stale() {
        Rows.run("22", """
            stale(0, 0) = -1; source(0, 1) = 1; source(1, 1) = 1; rule(1, true) = 0; input(0, 0) = 1; input(0, 1) = 2; rule(1, true) = 1
            make(0) = 2; stale(0, 0) = -1; make(0) = 2; stale(0, 0) = -2; stale(0, 1) = -1
            set(1, 0, 1) = 1; make(0) = 2; stale(0, 0) = 1; stale(0, 1) = -1
            set(0, 0, 1) = 1; make(0) = 2; stale(0, 0) = 0; stale(0, 1) = 0; stale(0, 2) = -1
            set(1, 0, 2) = 1; make(0) = 2; stale(0, 0) = 1; stale(0, 1) = 0; stale(0, 2) = 0; stale(0, 3) = -1
            set(1, 0, 3) = 1; make(0) = 2; stale(0, 0) = 1; stale(0, 1) = 1; stale(0, 2) = 0; stale(0, 3) = 0; stale(0, 4) = -1
            stale(0, -1) = -1; stale(0, MAX) = -1; stale(0, MIN) = -1; stale(1, 0) = -1; stale(2, 0) = -1; stale(-1, 0) = -1; stale(MAX, 0) = -1
            // the traces may go, what was told of them stays until the next make
            forget(0) = 4; stale(0, 0) = 1; become(0, 2, true) = 1; stale(0, 3) = 0; make(7) = NUMBER; stale(0, 0) = 1
            make(1) = 0; stale(0, 0) = -1; stale(1, 0) = -1; make(1) = 0; stale(1, 0) = -2; looked() = 0
            // one that came since
            rule(1, true) = 2; stale(2, 0) = -1; stale(2, 3) = -1
            """);
    }

    private static void count() {
        Rows.run("23", """
            count(0) = 0; count(4) = -1; count(-1) = -1; count(MAX) = -1; count(MIN) = -1
            source(0, 1) = 1; rule(1, true) = 0; rule(1, true) = 1; input(0, 0) = 1; input(1, 16) = 1; count(0) = 2
            make(1) = 1; count(1) = 1; count(2) = 2; count(3) = 2; make(1) = 1; count(1) = 2; count(2) = 2; count(3) = 2
            set(0, 0, 1) = 1; make(1) = 1; count(1) = 3; count(2) = 4; count(3) = 4; make(2) = NUMBER; count(1) = 3; anew(1) = 1
            count(1) = 3; count(2) = 4; forget(1) = 2; count(3) = 2; turn(0, 0, 1) = 1; count(3) = 0; make(1) = -11; count(1) = 4; count(2) = 6
            """);
    }

    private static void failuresInTraces() {
        Rows.run("a failure is another outcome than an empty row", """
            rule(1, false) = 0; input(0, 0) = 1; make(0) = 0; make(0) = 0; worked(0) = -1
            source(0, 0) = 0; make(0) = 0; worked(0) = 0; stale(0, 0) = 0; of(0, 3) = 2
            miss(0) = 1; make(0) = 0; worked(0) = -1; stale(0, 0) = 0; stale(0, 1) = -2
            """);
        Rows.run("a failure with another name is another one", """
            rule(1, true) = 0; input(0, 0) = 1; rule(1, false) = 1; input(1, 16) = 1; make(1) = 0
            turn(0, 0, 1) = 1; make(1) = 0; stale(1, 0) = 0; worked(0) = 0; worked(1) = 1
            turn(0, 0, 16) = 1; make(1) = 0; stale(1, 0) = 0; stale(1, 1) = 0; turn(0, 0, 39) = 1; make(1) = 0; of(1, 3) = 4
            turn(0, 0, 0) = 1; make(1) = 0; stale(1, 3) = -2; worked(1) = -1
            """);
        Rows.run("a result that comes out the same does not go on", """
            source(0, 2) = 2; set(0, 0, 1) = 1; rule(3, true) = 0; input(0, 0) = 1; rule(2, true) = 1; input(1, 16) = 1; make(1) = 1
            set(0, 0, 0) = 1; set(0, 1, 1) = 1; make(1) = 1; worked(0) = 0; worked(1) = -1; stale(1, 0) = -2; looked() = 2
            """);
    }

    private static void deepest() {
        StringBuilder chain = new StringBuilder("source(0, 1) = 1; set(0, 0, 6) = 1\n");
        for (int r = 0; r < 24; r++) {
            chain.append("rule(1, true) = ").append(r).append("; input(").append(r).append(", ");
            chain.append(r == 23 ? 0 : 17 + r).append(") = 1\n");
        }
        chain.append("make(0) = 1; part(0) = 6; worked(23) = 23; worked(24) = -1; make(0) = 1; looked() = 24; count(3) = 24\n");
        chain.append("turn(23, 0, 16) = 1; make(0) = -13; outcome(2) = 0; ring(0) = 0; ring(23) = 23; ring(24) = -1; looked() = 23\n");
        chain.append("make(23) = -13; ring(23) = 23; anew(12) = -13; outcome(2) = 0; turn(23, 0, 33) = 1; make(0) = -13; outcome(2) = 17\n");
        chain.append("ring(0) = 17; ring(6) = 23; ring(7) = -1; turn(23, 0, 0) = 1; make(0) = 1; worked(0) = 23; worked(1) = -1\n");
        Rows.run("24 rules open at once", chain.toString());
    }

    private static void broadest() {
        StringBuilder tree = new StringBuilder("source(0, 1) = 1; set(0, 0, 2) = 1\n");
        for (int r = 0; r < 24; r++) {
            tree.append("rule(2, true) = ").append(r).append('\n');
            for (int i = 1; i <= 6; i++) {
                // those below 4 read the next six each, the rest the source
                int name = r < 4 && 6 * r + i < 24 ? 16 + 6 * r + i : 0;
                tree.append("input(").append(r).append(", ").append(name).append(") = ").append(i).append('\n');
            }
        }
        // 4 .. 23 have 12 each; 3 reads 19 .. 23 and the source, 62; 2 and 1 read six of them, 72
        tree.append("make(3) = 1; part(0) = 62; make(2) = 1; part(0) = 72; make(0) = 1; part(0) = 242\n");
        tree.append("anew(0) = 1; part(0) = 242; count(2) = 24; set(0, 0, 3) = 1; make(0) = 1; part(0) = 363; count(2) = 48\n");
        // each one's trace differs at its first read, and it is worked as soon as that one has been
        tree.append("worked(0) = 7; worked(1) = 1; worked(2) = 8; worked(6) = 12; worked(7) = 0; worked(8) = 13; worked(9) = 2\n");
        tree.append("worked(23) = 6; worked(24) = -1; looked() = 24\n");
        Rows.run("24 rules, most of them side by side", tree.toString());
    }
}

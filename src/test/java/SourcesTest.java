/** Promises 1 to 7 and 24: a new object, the sources and the findings. */
public final class SourcesTest {
    public static void main(String[] args) {
        newObject();
        source();
        set();
        miss();
        copy();
        sizeAndTold();
        found();
        Rows.end();
    }

    private static void newObject() {
        for (int s = 0; s < 16; s++) {
            Rows.run("1, source " + s, "miss(" + s + ") = 0; size(" + s + ") = FOUND; found(0) = 1; told(" + s + ", 0) = 0");
        }
        Rows.run("1, rules and rounds", """
            count(0) = 0; count(1) = 0; count(2) = 0; count(3) = 0
            make(0) = NUMBER; anew(0) = NUMBER
            outcome(0) = -1; outcome(1) = -1; outcome(2) = -1; part(0) = 0; ring(0) = -1
            worked(0) = -1; looked() = 0; stale(0, 0) = -1; trace(0, 0, -1) = -1
            found(0) = 0; found(1) = 0; found(2) = 0; found(3) = 0; found(4) = 0
            of(0, 0) = FOUND
            """);
    }

    private static void source() {
        Rows.run("2, a row of zeros", """
            source(0, 2) = 2; size(0) = 2; told(0, 0) = 0; told(0, 1) = 0
            set(0, 0, 5) = 1; set(0, 1, 6) = 1
            // made again it holds nothing of the old one
            source(0, 3) = 3; told(0, 0) = 0; told(0, 1) = 0; told(0, 2) = 0; size(0) = 3
            source(15, 16) = 16; size(15) = 16; source(15, 0) = 0; size(15) = 0; miss(15) = 1
            """);
        Rows.run("2, refused", """
            source(0, 2) = 2; set(0, 0, 5) = 1
            source(-1, 2) = NUMBER; source(16, 2) = NUMBER; source(MAX, 2) = NUMBER; source(MIN, 2) = NUMBER
            source(0, 17) = NUMBER; source(0, MAX) = NUMBER
            // s is looked at ahead of n
            source(16, -1) = NUMBER; source(-1, 17) = NUMBER; found(0) = 0
            source(0, -1) = FOUND; found(0) = 3; found(3) = 1
            source(0, MIN) = FOUND; found(3) = 2
            size(0) = 2; told(0, 0) = 5
            """);
    }

    private static void set() {
        Rows.run("3, ordinary", """
            source(0, 2) = 2; source(1, 2) = 2
            set(0, 0, MIN) = 1; set(0, 1, MAX) = 1; told(0, 0) = MIN; told(0, 1) = MAX
            told(1, 0) = 0; told(1, 1) = 0
            set(0, 1, -4) = 1; told(0, 1) = -4; told(0, 0) = MIN
            """);
        Rows.run("3, refused", """
            set(-1, 0, 1) = FOUND; found(0) = 2; set(0, 0, 1) = FOUND; found(0) = 1
            // a missing one is looked at ahead of the place
            set(0, 99, 1) = FOUND; found(0) = 1; found(1) = 2
            set(16, 0, 1) = FOUND; found(0) = 2; set(MAX, 0, 1) = FOUND; set(MIN, 0, 1) = FOUND; found(2) = 4
            source(0, 2) = 2
            set(0, 2, 1) = FOUND; set(0, -1, 1) = FOUND; set(0, MAX, 1) = FOUND; set(0, MIN, 1) = FOUND
            found(2) = 8; found(0) = 2; told(0, 0) = 0; told(0, 1) = 0
            source(1, 0) = 0; set(1, 0, 1) = FOUND; found(2) = 9
            """);
    }

    private static void miss() {
        Rows.run("4", """
            miss(3) = 0; source(3, 4) = 4; miss(3) = 1; size(3) = FOUND; found(0) = 1; miss(3) = 0
            // an empty row is not a missing one
            source(3, 0) = 0; miss(3) = 1; source(3, 1) = 1; told(3, 0) = 0
            miss(-1) = NUMBER; miss(16) = NUMBER; miss(MAX) = NUMBER; miss(MIN) = NUMBER; size(3) = 1; found(1) = 1
            """);
    }

    private static void copy() {
        Rows.run("5, ordinary", """
            source(0, 4) = 4; set(0, 0, 1) = 1; set(0, 1, 2) = 1; set(0, 2, 3) = 1; set(0, 3, 4) = 1
            source(1, 3) = 3
            copy(0, 1, 1, 0, 2) = 2; told(1, 0) = 2; told(1, 1) = 3; told(1, 2) = 0
            copy(0, 3, 1, 2, 1) = 1; told(1, 2) = 4; told(1, 0) = 2
            told(0, 0) = 1; told(0, 1) = 2; told(0, 2) = 3; told(0, 3) = 4
            copy(0, 4, 1, 3, 0) = 0; copy(0, 0, 1, 0, 0) = 0; told(1, 0) = 2
            // what comes is the giver's ints, not the giver
            set(0, 1, 9) = 1; told(1, 0) = 2
            """);
        Rows.run("5, within one source", """
            source(0, 4) = 4; set(0, 0, 1) = 1; set(0, 1, 2) = 1; set(0, 2, 3) = 1; set(0, 3, 4) = 1
            copy(0, 0, 0, 1, 3) = 3; told(0, 0) = 1; told(0, 1) = 1; told(0, 2) = 2; told(0, 3) = 3
            copy(0, 1, 0, 0, 3) = 3; told(0, 0) = 1; told(0, 1) = 2; told(0, 2) = 3; told(0, 3) = 3
            copy(0, 0, 0, 0, 4) = 4; told(0, 3) = 3
            """);
        Rows.run("5, a rule that had read the taker finds it changed", """
            source(0, 1) = 1; set(0, 0, 3) = 1; source(1, 2) = 2; rule(1, true) = 0; input(0, 1) = 1; make(0) = 2
            copy(0, 0, 1, 1, 1) = 1; part(1) = 0; make(0) = 2; part(1) = 3; stale(0, 0) = 0
            """);
        Rows.run("5, refused", """
            copy(-1, 0, 0, 0, 0) = NUMBER; copy(0, 0, 16, 0, 0) = NUMBER; copy(16, 0, 0, 0, -1) = NUMBER; found(0) = 0
            copy(0, 0, -1, 0, 0) = NUMBER; copy(MAX, 0, MIN, 0, 0) = NUMBER; found(0) = 0
            source(0, 4) = 4; set(0, 0, 7) = 1
            copy(0, 0, 1, 0, -1) = FOUND; found(0) = 1; copy(1, 9, 0, 0, 1) = FOUND; found(1) = 2; found(4) = 0
            source(1, 2) = 2
            copy(0, -1, 1, 0, 1) = FOUND; found(0) = 4; copy(0, 0, 1, -1, 1) = FOUND; copy(0, 0, 1, 0, -1) = FOUND
            found(4) = 3
            copy(0, 3, 1, 0, 2) = FOUND; copy(0, 0, 1, 1, 2) = FOUND; copy(0, 5, 1, 0, 0) = FOUND; copy(0, 0, 1, 3, 0) = FOUND
            found(4) = 7
            // from + n wraps as an int
            copy(0, MAX, 1, 0, 1) = FOUND; copy(0, 0, 1, MAX, 1) = FOUND; copy(0, 1, 1, 1, MAX) = FOUND
            copy(0, MAX, 1, MAX, MAX) = FOUND; copy(0, MIN, 1, MIN, MIN) = FOUND; found(4) = 12; found(0) = 4
            told(1, 0) = 0; told(1, 1) = 0; size(1) = 2; told(0, 0) = 7
            """);
    }

    private static void sizeAndTold() {
        Rows.run("6", """
            size(-1) = FOUND; found(0) = 2; size(16) = FOUND; size(MAX) = FOUND; size(MIN) = FOUND; found(2) = 4
            size(0) = FOUND; found(0) = 1; source(0, 0) = 0; size(0) = 0; source(0, 16) = 16; size(0) = 16; found(1) = 1
            """);
        Rows.run("7", """
            told(0, 0) = 0; source(0, 2) = 2; set(0, 0, 8) = 1; set(0, 1, 9) = 1; told(0, 0) = 8; told(0, 1) = 9
            told(0, 2) = 0; told(0, -1) = 0; told(0, MAX) = 0; told(0, MIN) = 0
            told(-1, 0) = 0; told(16, 0) = 0; told(MAX, 0) = 0; told(MIN, 0) = 0; found(0) = 0
            miss(0) = 1; told(0, 0) = 0
            """);
    }

    private static void found() {
        Rows.run("24", """
            size(0) = FOUND; found(0) = 1; found(1) = 1
            size(16) = FOUND; found(0) = 2; found(2) = 1
            source(0, -5) = FOUND; found(0) = 3; found(3) = 1
            source(0, 1) = 1; copy(0, 0, 0, 1, 1) = FOUND; found(0) = 4; found(4) = 1
            of(0, 0) = FOUND; found(0) = 2; found(2) = 2
            found(1) = 1; found(3) = 1; found(4) = 1
            found(5) = -1; found(-1) = -1; found(MAX) = -1; found(MIN) = -1
            // refusals that are no findings, and calls that go well
            make(0) = NUMBER; source(0, 17) = NUMBER; size(0) = 1; found(0) = 2
            """);
    }
}

import java.util.ArrayList;
import java.util.List;

/**
 * "A call that is refused (answers below 0) changes nothing but what found() tells. Of several
 * refusals that a call names the first one named is answered."
 *
 * Each refused call is done on a shelf that has much to change, and all that can be asked of it is
 * then compared with a twin that has not had the call. As an object is good for 512 calls alone, the
 * questions are dealt out to as many pairs as they need.
 */
public final class RefusedTest {
    private static final int NUMBER = RemakeShelf.NUMBER;
    private static final int FULL = RemakeShelf.FULL;
    private static final int FOUND = RemakeShelf.FOUND;

    private static final int NO_FINDING = 0;
    private static final int MISSING = 1;
    private static final int BEYOND = 2;
    private static final int SIZE = 3;
    private static final int COPY = 4;

    // Sources 0, 1, 2 and 15 are there, 2 without ints. Rule 3 has all inputs it may have, rules 4 and
    // 5 ask one another, and rule 6 asks for one that may not be there.
    private static final String SOURCES = Rows.row(0, 7, 8, 9, 10, 11, 12, 13, 14, 15, 16, 17, 18, 19, 20, 21, 22)
        + Rows.row(1, 1, 2) + Rows.row(2) + Rows.row(15, 0, 3);
    private static final String RULES = Rows.rule(0, 2, true, 1, 2) + Rows.rule(1, 1, false, 16, 3, 15)
        + Rows.rule(2, 6, true, 1, 16, 17) + Rows.rule(3, 4, true, 2, 2, 2, 2, 2, 1)
        + Rows.rule(4, 1, true, 21) + Rows.rule(5, 3, false, 20) + Rows.rule(6, 5, false, 1, 39, 18);
    private static final int FEW = 7;
    private static final int ALL = 24;
    private static final String MORE_RULES = Rows.each(FEW, ALL, r -> "rule(" + (1 + r % 6) + ", " + (r % 2 == 0) + ") = " + r);
    private static final String ROUNDS = """
        make(3) = 2; make(6) = 4; make(4) = -13
        set(1, 0, 2) = 1; make(2) = 2; set(1, 0, 3) = 1; make(2) = 4; set(1, 0, 4) = 1; make(2) = 2
        """;
    private static final String FINDINGS = """
        source(0, -1) = FOUND; copy(0, 0, 1, 0, 3) = FOUND; copy(0, 0, 1, 0, -1) = FOUND; size(3) = FOUND
        size(4) = FOUND; set(5, 0, 0) = FOUND
        """;

    private final String title;
    private final int rules;
    private final List<String> ahead;
    private final List<List<String>> questions;

    private RefusedTest(String title, int rules, String latestRounds) {
        this.title = title;
        this.rules = rules;
        String rows = SOURCES + RULES + (rules == ALL ? MORE_RULES : "") + ROUNDS + FINDINGS + latestRounds;
        Rows.run(title, rows);
        ahead = Rows.split(rows).stream().map(row -> row.substring(0, row.lastIndexOf('='))).map(String::strip).toList();
        questions = dealtOut();
    }

    public static void main(String[] args) {
        String row = "set(1, 1, 9) = 1; make(2) = 4\n";
        String ring = row + "make(5) = -13\n";
        String fromNothing = row + "set(1, 1, 8) = 1; anew(0) = 1\n";
        for (int rules : new int[] {FEW, ALL}) {
            new RefusedTest("behind a row, " + rules + " rules", rules, row).refuseAll();
            new RefusedTest("behind a ring, " + rules + " rules", rules, ring).refuseAll();
            new RefusedTest("behind anew(), " + rules + " rules", rules, fromNothing).refuseAll();
        }
        firstNamed();
        countedOnce();
        Rows.end();
    }

    private void refuseAll() {
        sources();
        sourcesFound();
        copies();
        rules();
        rounds();
        questionsForNothing();
    }

    private void sources() {
        for (String s : new String[] {"-1", "16", "MAX", "MIN"}) {
            refused("source(" + s + ", 1)", NUMBER, NO_FINDING);
            refused("miss(" + s + ")", NUMBER, NO_FINDING);
            refused("copy(" + s + ", 0, 1, 0, 1)", NUMBER, NO_FINDING);
            refused("copy(0, 0, " + s + ", 0, 1)", NUMBER, NO_FINDING);
            refused("set(" + s + ", 0, 77)", FOUND, BEYOND);
            refused("size(" + s + ")", FOUND, BEYOND);
        }
        refused("source(0, 17)", NUMBER, NO_FINDING);
        refused("source(1, MAX)", NUMBER, NO_FINDING);
        refused("source(3, 17)", NUMBER, NO_FINDING);
    }

    private void sourcesFound() {
        refused("source(0, -1)", FOUND, SIZE);
        refused("source(3, MIN)", FOUND, SIZE);
        refused("set(3, 0, 77)", FOUND, MISSING);
        refused("set(0, 16, 77)", FOUND, BEYOND);
        refused("set(0, -1, 77)", FOUND, BEYOND);
        refused("set(1, 2, 77)", FOUND, BEYOND);
        refused("set(2, 0, 77)", FOUND, BEYOND);
        refused("set(15, MAX, 77)", FOUND, BEYOND);
        refused("size(3)", FOUND, MISSING);
        refused("size(14)", FOUND, MISSING);
    }

    private void copies() {
        refused("copy(3, 0, 1, 0, 0)", FOUND, MISSING);
        refused("copy(0, 0, 3, 0, 0)", FOUND, MISSING);
        refused("copy(3, 0, 3, 0, 0)", FOUND, MISSING);
        refused("copy(0, -1, 1, 0, 1)", FOUND, COPY);
        refused("copy(0, 0, 1, -1, 1)", FOUND, COPY);
        refused("copy(0, 0, 1, 0, -1)", FOUND, COPY);
        refused("copy(0, 15, 1, 0, 2)", FOUND, COPY);
        refused("copy(0, 0, 1, 1, 2)", FOUND, COPY);
        refused("copy(0, 0, 0, 1, 16)", FOUND, COPY);
        refused("copy(0, 0, 2, 0, 1)", FOUND, COPY);
        refused("copy(0, MAX, 1, 0, 1)", FOUND, COPY);
        refused("copy(0, 1, 1, 1, MAX)", FOUND, COPY);
    }

    private void rules() {
        refused("rule(0, true)", NUMBER, NO_FINDING);
        refused("rule(7, false)", NUMBER, NO_FINDING);
        if (rules == ALL) {
            refused("rule(1, true)", FULL, NO_FINDING);
            refused("rule(6, false)", FULL, NO_FINDING);
        }
        refused("input(0, -1)", NUMBER, NO_FINDING);
        refused("input(2, 40)", NUMBER, NO_FINDING);
        refused("input(3, 0)", FULL, NO_FINDING);
        refused("turn(2, 3, 0)", NUMBER, NO_FINDING);
        refused("turn(2, -1, 0)", NUMBER, NO_FINDING);
        refused("turn(3, 6, 0)", NUMBER, NO_FINDING);
        refused("turn(2, 0, -1)", NUMBER, NO_FINDING);
        refused("turn(2, 0, 40)", NUMBER, NO_FINDING);
        refused("become(2, 0, false)", NUMBER, NO_FINDING);
        refused("become(2, 7, false)", NUMBER, NO_FINDING);
        refused("of(2, -1)", NUMBER, NO_FINDING);
        refused("of(2, 10)", NUMBER, NO_FINDING);
        for (String r : noSuchRules()) {
            refused("input(" + r + ", 0)", NUMBER, NO_FINDING);
            refused("turn(" + r + ", 0, 0)", NUMBER, NO_FINDING);
            refused("become(" + r + ", 1, true)", NUMBER, NO_FINDING);
            refused("forget(" + r + ")", NUMBER, NO_FINDING);
            refused("of(" + r + ", 0)", FOUND, BEYOND);
        }
    }

    private void rounds() {
        for (String r : noSuchRules()) {
            refused("make(" + r + ")", NUMBER, NO_FINDING);
            refused("anew(" + r + ")", NUMBER, NO_FINDING);
        }
    }

    /** They answer -1, or 0, for what isn't there, and that is no FINDING. */
    private void questionsForNothing() {
        for (String call : Rows.split("""
            trace(2, 4, 0); trace(2, 0, -2); trace(2, 0, 25); trace(2, -1, -1); outcome(-1); outcome(3); ring(-1); ring(24)
            worked(-1); worked(24); stale(2, -1); stale(2, 4); count(-1); count(4); found(-1); found(5)
            """)) {
            refused(call, -1, NO_FINDING);
        }
        for (String r : noSuchRules()) {
            refused("trace(" + r + ", 0, -1)", -1, NO_FINDING);
            refused("stale(" + r + ", 0)", -1, NO_FINDING);
        }
        for (String call : Rows.split("told(16, 0); told(-1, 0); told(0, 16); told(0, -1); told(3, 0); part(-1); part(24)")) {
            refused(call, 0, NO_FINDING);
        }
    }

    private String[] noSuchRules() {
        return new String[] {"-1", String.valueOf(rules), "24", "MAX", "MIN"};
    }

    private void refused(String call, int due, int finding) {
        String what = title + ": " + call;
        foundTells(what, call, due, finding);
        for (List<String> some : questions) {
            RemakeShelf with = used();
            RemakeShelf without = used();
            Rows.due(what, Rows.ask(with, call), due);
            for (String question : some) {
                int got = Rows.ask(with, question);
                int want = Rows.ask(without, question);
                if (got == want) {
                    Rows.right();
                } else {
                    Rows.tell(what, "behind it " + question + " is " + got + ", and without it " + want);
                }
            }
        }
    }

    /** The latest FINDING ahead of the call is another one than that of the call. */
    private void foundTells(String what, String call, int due, int finding) {
        RemakeShelf shelf = used();
        Rows.due("another finding", Rows.ask(shelf, finding == BEYOND ? "size(3)" : "size(16)"), FOUND);
        int[] before = new int[COPY + 1];
        for (int i = 0; i <= COPY; i++) {
            before[i] = Rows.ask(shelf, "found(" + i + ")");
        }
        Rows.due(what, Rows.ask(shelf, call), due);
        Rows.due(what + ", then found(0)", Rows.ask(shelf, "found(0)"), finding == NO_FINDING ? before[0] : finding);
        for (int i = MISSING; i <= COPY; i++) {
            Rows.due(what + ", then found(" + i + ")", Rows.ask(shelf, "found(" + i + ")"), before[i] + (i == finding ? 1 : 0));
        }
    }

    private RemakeShelf used() {
        RemakeShelf shelf = new RemakeShelf();
        for (String call : ahead) {
            Rows.ask(shelf, call);
        }
        return shelf;
    }

    private List<List<String>> dealtOut() {
        int most = Rows.MOST_CALLS - ahead.size() - 1;
        List<String> all = looks();
        List<List<String>> dealt = new ArrayList<>();
        for (int from = 0; from < all.size(); from += most) {
            dealt.add(all.subList(from, Math.min(all.size(), from + most)));
        }
        // what comes next shows what can't be asked: the outcomes that the traces hold
        dealt.add(goesOn("make"));
        dealt.add(goesOn("anew"));
        for (List<String> some : dealt) {
            Rows.due(title + ": fits into 512 calls", some.size() <= most ? 1 : 0, 1);
        }
        return dealt;
    }

    private List<String> looks() {
        StringBuilder all = new StringBuilder("looked()\n");
        all.append(Rows.each(0, 16, s -> Rows.each(0, 16, i -> "told(" + s + ", " + i + ")")));
        all.append(Rows.each(0, 16, s -> "size(" + s + ")"));
        all.append(Rows.each(0, rules + 1, r -> Rows.each(0, 10, what -> "of(" + r + ", " + what + ")")));
        all.append(Rows.each(0, FEW, r -> Rows.each(0, 5, k -> Rows.each(-1, 7, i -> "trace(" + r + ", " + k + ", " + i + ")"))));
        all.append(Rows.each(FEW, rules + 1, r -> "trace(" + r + ", 0, -1)"));
        all.append(Rows.each(0, 4, what -> "outcome(" + what + "); count(" + what + ")"));
        all.append(Rows.each(0, 25, i -> "part(" + i + "); ring(" + i + "); worked(" + i + ")"));
        all.append(Rows.each(0, rules + 1, r -> Rows.each(0, 5, k -> "stale(" + r + ", " + k + ")")));
        return Rows.split(all.toString());
    }

    /** Back through what source 1 has been, the last rule that came among those that are made. */
    private List<String> goesOn(String round) {
        StringBuilder all = new StringBuilder("set(1, 1, 2)\n");
        for (int v = 1; v <= 4; v++) {
            all.append("set(1, 0, ").append(v).append(")\n");
            for (int r : new int[] {0, 2, 3, 4, 6, rules - 1}) {
                String told = "; outcome(0); outcome(1); outcome(2); part(0); part(1); looked(); worked(0); worked(1)";
                all.append(round).append('(').append(r).append(')').append(told).append('\n');
            }
            all.append("stale(2, 0); stale(2, 1); stale(2, 2); stale(2, 3); ring(0); ring(1); count(2); count(3)\n");
        }
        return Rows.split(all.append("rule(1, true); count(0)\n").toString());
    }

    private static void firstNamed() {
        Rows.run("2: s isn't 0 .. 15, ahead of n is below 0",
            "source(16, -1) = NUMBER; source(-1, MIN) = NUMBER; found(0) = 0; found(3) = 0; source(15, -1) = FOUND; found(3) = 1");
        Rows.run("3: s isn't 0 .. 15, ahead of it has no int i",
            "set(16, -1, 0) = FOUND; set(-1, 99, 0) = FOUND; found(0) = 2; found(2) = 2; found(1) = 0");
        Rows.run("3: MISSING, ahead of it has no int i",
            "set(0, -1, 0) = FOUND; found(0) = 1; set(15, 16, 0) = FOUND; found(1) = 2; found(2) = 0");
        Rows.run("5: s or t isn't 0 .. 15, ahead of MISSING", "copy(0, 0, 16, 0, 0) = NUMBER; copy(-1, 0, 0, 0, 0) = NUMBER; found(0) = 0");
        Rows.run("5: s or t isn't 0 .. 15, ahead of COPY",
            "source(0, 1) = 1; copy(0, 0, 16, 0, 2) = NUMBER; copy(16, -1, 0, 0, 0) = NUMBER; copy(0, 0, -1, -1, -1) = NUMBER\n"
            + "found(0) = 0");
        Rows.run("5: MISSING, ahead of COPY",
            "source(0, 1) = 1; copy(0, 0, 1, 0, -1) = FOUND; copy(1, -1, 0, 0, 0) = FOUND; copy(0, 2, 1, 0, 0) = FOUND; found(0) = 1\n"
            + "found(1) = 3; found(4) = 0");
        Rows.run("8: kind isn't 1 .. 6, ahead of FULL",
            Rows.each(0, ALL, r -> "rule(1, true) = " + r) + "rule(0, true) = NUMBER; rule(7, true) = NUMBER; rule(1, true) = FULL");
        Rows.run("9: name isn't 0 .. 39, ahead of FULL",
            Rows.rule(0, 1, true, 0, 0, 0, 0, 0, 0) + "input(0, 40) = NUMBER; input(0, -1) = NUMBER; input(0, 39) = FULL");
        Rows.run("13: what isn't 0 .. 9, ahead of there is no such RULE",
            "of(0, 10) = NUMBER; of(24, -1) = NUMBER; found(0) = 0; of(0, 9) = FOUND; found(0) = 2");
    }

    private static void countedOnce() {
        Rows.run("Terms 4: the FINDING is counted: once a call", """
            copy(0, 0, 1, 0, -1) = FOUND; found(1) = 1; set(16, 99, 0) = FOUND; found(2) = 1; source(0, MIN) = FOUND; found(3) = 1
            source(0, 1) = 1; source(1, 1) = 1; copy(0, -1, 1, -1, -1) = FOUND; found(4) = 1; of(-1, 4) = FOUND; found(2) = 2
            found(0) = 2; found(1) = 1; found(3) = 1; found(4) = 1
            """);
    }
}

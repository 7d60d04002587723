/**
 * The boundary cases of promises 15 to 18 and 20 to 23: what a round answers, and what is told of
 * the latest one. A test for each sentence, whose place
 * and words its title tells.
 */
public final class RoundEdgesTest {
    // rule 1 joins rule 0 and source 1, rule 0 sums source 0
    private static final String TWO = Rows.row(0, 5) + Rows.row(1, 6) + Rows.rule(0, 2, true, 0) + Rows.rule(1, 1, true, 16, 1);

    public static void main(String[] args) {
        make();
        makeIsNoRefusal();
        anew();
        anewLeaves();
        outcome();
        part();
        worked();
        looked();
        stale();
        staleOfWhom();
        count();
        lastCalls();
        Rows.end();
    }

    private static void make() {
        Rows.run("15: NUMBER: there is no such RULE", "make(0) = NUMBER\n" + TWO + """
            make(-1) = NUMBER; make(2) = NUMBER; make(16) = NUMBER; make(17) = NUMBER; make(23) = NUMBER
            make(24) = NUMBER; make(MAX) = NUMBER; make(MIN) = NUMBER
            count(1) = 0; outcome(0) = -1; make(0) = 1; make(1) = 2; count(1) = 2; found(0) = 0
            """);
        Rows.run("15: NUMBER: there is no such RULE, of 24",
            Rows.each(0, 24, r -> "rule(2, true) = " + r) + "make(24) = NUMBER; make(23) = 1; make(0) = 1; worked(0) = 0");
        Rows.run("15: how many ints it has: none, one and 24",
            "source(0, 12) = 12; rule(1, true) = 0; make(0) = 0; rule(2, true) = 1; make(1) = 1\n" + Rows.rule(2, 1, true, 0, 0)
            + "make(2) = 24");
        Rows.run("15: -10 less the kind of its FAILURE",
            "source(0, 16) = 16\n" + Rows.rule(0, 1, true, 1) + Rows.rule(1, 1, true, 0, 0) + Rows.rule(2, 1, true, 18)
            + Rows.rule(3, 1, true, 20) + "make(0) = -11; make(1) = -12; make(2) = -13; make(3) = -14; anew(0) = -11; anew(1) = -12\n"
            + "anew(2) = -13; anew(3) = -14");
    }

    private static void makeIsNoRefusal() {
        Rows.run("15: (this is no refusal)",
            TWO + "make(1) = 2; miss(1) = 1; make(1) = -11; count(1) = 2; outcome(0) = 0; outcome(1) = 1; outcome(2) = 1\n"
            + Rows.workedJust(1) + "looked() = 3; stale(1, 0) = 1; of(1, 3) = 2; count(2) = 3; found(0) = 0");
        Rows.run("15: (this is no refusal), of anew()",
            TWO + "make(1) = 2; miss(1) = 1; anew(1) = -11; outcome(0) = 0; outcome(1) = 1; outcome(2) = 1; part(0) = 0; count(1) = 1\n"
            + "found(0) = 0");
    }

    private static void anew() {
        Rows.run("16: NUMBER: there is no such RULE", "anew(0) = NUMBER\n" + TWO + """
            anew(-1) = NUMBER; anew(2) = NUMBER; anew(16) = NUMBER; anew(23) = NUMBER; anew(24) = NUMBER
            anew(MAX) = NUMBER; anew(MIN) = NUMBER
            outcome(0) = -1; anew(0) = 1; part(0) = 5; anew(1) = 2; found(0) = 0
            """);
        Rows.run("16: as make(): before any make()",
            TWO + "anew(1) = 2; outcome(0) = 2; outcome(1) = 0; part(0) = 5; part(1) = 6\n" + "worked(0) = -1; looked() = 0\n"
            + "stale(0, 0) = -1; count(1) = 0; count(2) = 0; count(3) = 0; found(0) = 0");
        Rows.run("16: as make(): a TRACE that fits gives the same", TWO + "make(1) = 2; anew(1) = 2; part(0) = 5; part(1) = 6");
        Rows.run("16: as make(): no ints, and 24",
            "source(0, 12) = 12; rule(1, true) = 0; anew(0) = 0; outcome(0) = 0\n" + Rows.rule(1, 1, true, 0, 0)
            + "anew(1) = 24; outcome(0) = 24; part(23) = 0");
    }

    private static void anewLeaves() {
        String used = TWO + "make(1) = 2; set(1, 0, 7) = 1; make(1) = 2; stale(1, 0) = 1; looked() = 3\n" + Rows.workedJust(1);
        String asItWas = Rows.workedJust(1) + "looked() = 3; stale(0, 0) = -2; stale(1, 0) = 1; stale(1, 1) = -1\n"
            + "count(1) = 2; count(2) = 3; count(3) = 3; of(0, 3) = 1; of(1, 3) = 2\n";
        Rows.run("16: TRACES, and what worked(), looked() and stale() tell, stay as they are",
            used + "set(0, 0, 8) = 1; anew(1) = 2; part(0) = 8; part(1) = 7\n" + asItWas);
        Rows.run("16: .. stay as they are, when it fails", used + "miss(0) = 1; anew(1) = -11\n" + asItWas);
        Rows.run("16: .. stay as they are, of another RULE", used + "anew(0) = 1\n" + asItWas);
        Rows.run("16: .. stay as they are, when one is in a RING",
            used + Rows.rule(2, 1, true, 18) + "anew(2) = -13\n" + asItWas + "stale(2, 0) = -1");
        Rows.run("16: .. and the next make() is as if it had not been",
            used + "set(0, 0, 8) = 1; anew(1) = 2; set(0, 0, 5) = 1; make(1) = 2; worked(0) = -1; looked() = 3; stale(1, 0) = -2");
    }

    private static void outcome() {
        Rows.run("17: -1 before any",
            "outcome(0) = -1; outcome(1) = -1; outcome(2) = -1\n" + TWO + "make(2) = NUMBER; anew(2) = NUMBER; outcome(0) = -1\n"
            + "outcome(1) = -1; outcome(2) = -1; anew(0) = 1; outcome(0) = 1");
        Rows.run("17: or for another what",
            TWO + "outcome(3) = -1; make(1) = 2; outcome(-1) = -1; outcome(3) = -1; outcome(MAX) = -1; outcome(MIN) = -1; outcome(0) = 2\n"
            + "outcome(2) = 0; found(0) = 0");
        Rows.run("17: (0 of a FAILURE)", Rows.rule(0, 1, true, 9) + "make(0) = -11; outcome(0) = 0; outcome(1) = 1; outcome(2) = 9");
        Rows.run("17: (both 0 without)",
            TWO + Rows.rule(2, 1, true, 9) + "make(2) = -11; outcome(2) = 9; make(1) = 2; outcome(1) = 0; outcome(2) = 0; outcome(0) = 2");
        Rows.run("17: of the latest make() or anew()",
            TWO + "make(1) = 2; anew(0) = 1; outcome(0) = 1; make(1) = 2; outcome(0) = 2; make(0) = 1; outcome(0) = 1");
        Rows.run("17: that wasn't refused",
            TWO + "make(1) = 2; make(2) = NUMBER; anew(-1) = NUMBER; outcome(0) = 2; outcome(1) = 0; part(0) = 5; part(1) = 6");
        Rows.run("17: it stays what it was then",
            TWO + "make(1) = 2; set(0, 0, 1) = 1; source(1, 0) = 0; forget(1) = 1; become(1, 2, true) = 1; input(1, 9) = 3\n"
            + "outcome(0) = 2; part(0) = 5; part(1) = 6");
    }

    private static void part() {
        Rows.run("18: 0 if there is none such: before any", "part(0) = 0; part(-1) = 0; part(MAX) = 0; part(MIN) = 0; found(0) = 0");
        Rows.run("18: 0 if there is none such: i",
            TWO + "make(1) = 2; part(-1) = 0; part(0) = 5; part(1) = 6; part(2) = 0; part(24) = 0; part(MAX) = 0; part(MIN) = 0\n"
            + "found(0) = 0");
        Rows.run("18: 0 if there is none such: of a FAILURE", TWO + "make(1) = 2; miss(1) = 1; make(1) = -11; part(0) = 0; part(1) = 0");
        Rows.run("18: 0 if there is none such: of a row without ints",
            TWO + "rule(1, true) = 2; make(1) = 2; make(2) = 0; part(0) = 0; part(1) = 0");
        Rows.run("18: Int i of that OUTCOME: the last of 24",
            "source(0, 12) = 12; set(0, 11, 4) = 1\n" + Rows.rule(0, 1, true, 0, 0)
            + "make(0) = 24; part(22) = 0; part(23) = 4; part(24) = 0");
    }

    private static void worked() {
        Rows.run("20: -1 if there is none such: before any",
            "worked(0) = -1\n" + TWO + "worked(0) = -1; make(3) = NUMBER; worked(0) = -1; anew(1) = 2; worked(0) = -1");
        Rows.run("20: -1 if there is none such: i",
            TWO + "make(1) = 2; worked(-1) = -1; worked(0) = 1; worked(1) = 0; worked(2) = -1; worked(24) = -1; worked(MAX) = -1\n"
            + "worked(MIN) = -1; found(0) = 0");
        Rows.run("20: -1 if there is none such: all was as it was", TWO + "make(1) = 2; make(1) = 2; worked(0) = -1");
        Rows.run("20: in the latest make(): those of the one before don't count",
            TWO + "make(1) = 2; set(0, 0, 8) = 1; make(0) = 1\n" + Rows.workedJust(0) + "make(1) = 2\n" + Rows.workedJust(1));
        Rows.run("20: that wasn't refused", TWO + "make(1) = 2; make(2) = NUMBER\n" + Rows.workedJust(1, 0));
        Rows.run("20: in the order in which (b) began: ahead of what it reads", TWO + "make(1) = 2\n" + Rows.workedJust(1, 0));
        Rows.run("20: in the order in which (b) began: behind what it was LOOKED AT for",
            TWO + "make(1) = 2; set(0, 0, 8) = 1; make(1) = 2\n" + Rows.workedJust(0, 1));
        Rows.run("20: one that is HIT in (b) was WORKED",
            Rows.rule(0, 1, true, 17) + Rows.rule(1, 1, true, 16) + "make(1) = -13\n" + Rows.workedJust(1, 0) + "count(2) = 2");
        Rows.run("20: all 24",
            Rows.each(0, 24, r -> Rows.rule(r, 1, true, r == 23 ? 0 : 17 + r).strip()) + "source(0, 0) = 0; make(0) = 0\n"
            + Rows.each(0, 24, r -> "worked(" + r + ") = " + r) + "worked(24) = -1; worked(25) = -1; count(2) = 24");
    }

    private static void looked() {
        Rows.run("21: 0 before any",
            "looked() = 0\n" + TWO + "looked() = 0; anew(1) = 2; looked() = 0; make(1) = 2; looked() = 0; make(1) = 2; looked() = 3");
        Rows.run("21: in the latest make(): that of the one before doesn't count",
            TWO + "make(1) = 2; make(1) = 2; looked() = 3; make(0) = 1; looked() = 1");
        Rows.run("21: that wasn't refused", TWO + "make(1) = 2; make(1) = 2; make(2) = NUMBER; anew(2) = NUMBER; looked() = 3");
        Rows.run("21: names made in (a): up to the one that is another",
            Rows.row(0, 1) + Rows.rule(0, 1, true, 1, 0, 1) + Rows.row(1, 2) + "make(0) = 3; set(0, 0, 9) = 1; make(0) = 3; looked() = 2\n"
            + "worked(0) = 0");
        Rows.run("21: names made in (a): not those read in (b)",
            Rows.row(0, 1) + Rows.rule(0, 1, true, 0, 0, 0) + "make(0) = 3; set(0, 0, 9) = 1; make(0) = 3; looked() = 1\n"
            + "trace(0, 0, -1) = 3");
        Rows.run("21: also if the RULE is HIT behind it",
            Rows.row(0, 1) + Rows.rule(0, 1, true, 0, 17, 0) + Rows.rule(1, 1, true, 0) + "make(0) = 3; turn(1, 0, 16) = 1; make(0) = -13\n"
            + "looked() = 2; stale(0, 0) = -1");
        Rows.run("21: a TRACE without READS", "rule(1, true) = 0; make(0) = 0; make(0) = 0; looked() = 0; stale(0, 0) = -2");
        Rows.run("21: the READS of four TRACES, each up to its end",
            Rows.row(0) + Rows.row(1, 0) + Rows.rule(0, 1, true, 0, 0, 0, 0, 0, 1)
            + Rows.each(1, 6, v -> "set(1, 0, " + v + ") = 1; make(0) = 1; looked() = " + 6 * Math.min(4, v - 1)));
        Rows.run("21: 25 READS",
            "source(0, 12) = 12; source(1, 0) = 0\n" + Rows.rule(0, 6, true, 17, 1) + Rows.rule(1, 1, true, 0, 0)
            + "make(0) = 0; make(0) = 0; looked() = 27; worked(0) = -1");
    }

    private static void stale() {
        String one = Rows.row(0, 0) + Rows.row(1, 0) + Rows.rule(0, 1, true, 0, 1);
        String five = one + Rows.each(1, 6, v -> "set(1, 0, " + v + ") = 1; make(0) = 2");
        Rows.run("22: the first READ that was another one: the first",
            one + "make(0) = 2; set(0, 0, 3) = 1; set(1, 0, 3) = 1; make(0) = 2; stale(0, 0) = 0");
        Rows.run("22: the first READ that was another one: the last", one + "make(0) = 2; set(1, 0, 3) = 1; make(0) = 2; stale(0, 0) = 1");
        // 23 times source 1, and source 2 last
        Rows.run("22: the first READ that was another one: the 25th",
            "source(0, 12) = 12; source(1, 0) = 0; source(2, 0) = 0; source(3, 12) = 12; set(3, 11, 1) = 1\n"
            + Rows.rule(0, 6, true, 17, 1, 2) + Rows.rule(1, 1, true, 0, 3) + "make(0) = 0; trace(0, 0, 24) = 2; source(2, 1) = 1\n"
            + "make(0) = 1; stale(0, 0) = 24; looked() = 27");
        Rows.run("22: -2 if none was (it is the one that fits)", one + "make(0) = 2; make(0) = 2; stale(0, 0) = -2; stale(0, 1) = -1");
        Rows.run("22: -1 if there was none such: k",
            five + "stale(0, -1) = -1; stale(0, 0) = 1; stale(0, 3) = 1; stale(0, 4) = -1; stale(0, 5) = -1; stale(0, MAX) = -1\n"
            + "stale(0, MIN) = -1; found(0) = 0");
        Rows.run("22: -1 if there was none such: those behind the one that fits",
            five + "set(1, 0, 4) = 1; make(0) = 2; stale(0, 0) = 1; stale(0, 1) = -2; stale(0, 2) = -1; stale(0, 3) = -1");
        Rows.run("22: the last of four is the one that fits",
            five + "set(1, 0, 2) = 1; make(0) = 2; worked(0) = -1; stale(0, 0) = 1; stale(0, 1) = 1; stale(0, 2) = 1; stale(0, 3) = -2\n"
            + "stale(0, 4) = -1");
        Rows.run("22: the k-th TRACE that was gone over then, not the k-th by now",
            five + "set(1, 0, 2) = 1; make(0) = 2; stale(0, 0) = 1; stale(0, 3) = -2; make(0) = 2; stale(0, 0) = -2; stale(0, 1) = -1");
    }

    private static void staleOfWhom() {
        Rows.run("22: -1 if there was none such: RULE",
            "stale(0, 0) = -1\n" + TWO + "make(1) = 2; make(1) = 2; stale(-1, 0) = -1; stale(0, 0) = -2; stale(1, 0) = -2\n"
            + "stale(2, 0) = -1; stale(23, 0) = -1; stale(24, 0) = -1; stale(MAX, 0) = -1; stale(MIN, 0) = -1; found(0) = 0");
        Rows.run("22: -1 if there was none such: before any, and in the first",
            TWO + "stale(1, 0) = -1; anew(1) = 2; stale(1, 0) = -1; make(1) = 2; stale(1, 0) = -1; stale(0, 0) = -1");
        Rows.run("22: a RULE that wasn't LOOKED AT in the latest make()",
            TWO + "make(1) = 2; make(1) = 2; stale(1, 0) = -2; make(0) = 1; stale(0, 0) = -2; stale(1, 0) = -1");
        Rows.run("22: a RULE that wasn't LOOKED AT, since what is ahead of it was another one",
            Rows.row(0, 1) + Rows.row(1, 1) + Rows.rule(0, 4, true, 0, 17) + Rows.rule(1, 1, true, 1) + "source(0, 0) = 0; make(0) = 1\n"
            + "source(0, 1) = 1; make(0) = 1; stale(0, 0) = 0; stale(1, 0) = -1");
        Rows.run("22: that wasn't refused",
            TWO + "make(1) = 2; make(1) = 2; make(2) = NUMBER; anew(2) = NUMBER; stale(1, 0) = -2; stale(0, 0) = -2");
        Rows.run("22: gone over then: though the TRACES have gone since",
            TWO + "make(1) = 2; set(1, 0, 1) = 1; make(1) = 2; forget(1) = 2; forget(0) = 1; input(1, 1) = 3; stale(1, 0) = 1\n"
            + "stale(0, 0) = -2; stale(1, 1) = -1");
        Rows.run("22: or the RULE was HIT in it",
            Rows.row(0, 1) + Rows.rule(0, 1, true, 0, 17) + Rows.rule(1, 1, true, 0) + "make(0) = 2; set(0, 0, 2) = 1; make(0) = 2\n"
            + "set(0, 0, 1) = 1; turn(1, 0, 16) = 1; make(0) = -13; stale(0, 0) = 0; stale(0, 1) = -1; stale(0, 2) = -1");
        Rows.run("22: a RULE that came since the latest make()",
            TWO + "make(1) = 2; make(1) = 2; rule(1, true) = 2; stale(2, 0) = -1; stale(2, 3) = -1; stale(1, 0) = -2");
    }

    private static void count() {
        Rows.run("23: -1 for another what",
            "count(-1) = -1; count(4) = -1; count(MAX) = -1; count(MIN) = -1; count(0) = 0; count(3) = 0\n" + TWO + "make(1) = 2\n"
            + "count(-1) = -1; count(4) = -1; count(0) = 2; count(3) = 2; found(0) = 0");
        Rows.run("23: What = 0: RULES",
            "count(0) = 0\n" + Rows.each(0, 24, r -> "rule(1, true) = " + r + "; count(0) = " + (r + 1)) + "rule(1, true) = FULL\n"
            + "count(0) = 24; rule(0, true) = NUMBER; count(0) = 24");
        Rows.run("23: 1 make()s that weren't refused",
            TWO + "make(2) = NUMBER; count(1) = 0; make(1) = 2; count(1) = 1; make(-1) = NUMBER; anew(1) = 2; anew(2) = NUMBER\n"
            + "count(1) = 1; make(1) = 2; miss(0) = 1; make(1) = -11; count(1) = 3");
        Rows.run("23: 2 all WORKED in these",
            TWO + "anew(1) = 2; count(2) = 0; make(1) = 2; count(2) = 2; make(1) = 2; count(2) = 2; set(1, 0, 0) = 1; make(1) = 2\n"
            + "count(2) = 3; anew(1) = 2; make(2) = NUMBER; count(2) = 3; forget(1) = 2; count(2) = 3");
        Rows.run("23: 3 all TRACES that are kept",
            TWO + "count(3) = 0; make(0) = 1; count(3) = 1; make(1) = 2; count(3) = 2; set(0, 0, 9) = 1; anew(1) = 2; count(3) = 2\n"
            + "make(1) = 2; count(3) = 4; forget(0) = 2; count(3) = 2; turn(1, 0, 1) = 1; count(3) = 0");
    }

    private static void lastCalls() {
        String ahead = Rows.row(0, 0) + Rows.each(0, 24, r -> Rows.rule(r, 1, true, r == 23 ? 0 : 17 + r).strip());
        // 2 and 48 calls; then all 24 are worked in each of 230 rounds
        Rows.run("An object is used for at most 512 calls: 24 RULES WORKED in each ROUND",
            ahead + Rows.each(1, 231, v -> "set(0, 0, " + v + ") = 1; make(0) = 1") + "part(0) = 230; count(2) = 5520");
        String wide = "source(0, 12) = 12; source(1, 1) = 1\n" + Rows.rule(0, 1, true, 0, 0)
            + Rows.each(1, 24, r -> Rows.rule(r, 6, true, 16, r == 23 ? 1 : 17 + r).strip());
        // each of 1 .. 23 has 25 reads; the next one's row has 24 ints but for the last one
        Rows.run("An object is used for at most 512 calls: the most READS",
            wide + Rows.each(1, 199, v -> "set(1, 0, " + v + ") = 1; make(23) = 24") + "part(23) = 198; trace(23, 0, -1) = 25\n"
            + "make(22) = -12; count(1) = 199");
    }
}

/**
 * The boundary cases of rings: Terms 3 where it speaks of rules that are OPEN and HIT, and promise
 * 19. A test for each sentence, whose place
 * and words its title tells.
 */
public final class RingEdgesTest {
    public static void main(String[] args) {
        least();
        notInIt();
        strictOrLenient();
        hitReadsNoFurther();
        hitWhileLookedAt();
        hitBehindARead();
        noTraceIsKept();
        notOpenAnyMore();
        onlyWhatIsRead();
        eachKind();
        fromNothing();
        told();
        toldUntilTheNext();
        longest();
        Rows.end();
    }

    private static String rings(int r, int name, int... ring) {
        return "make(" + r + ") = -13; outcome(0) = 0; outcome(1) = 3; outcome(2) = " + name + "\n" + Rows.ringOf(ring);
    }

    private static void least() {
        Rows.run("Terms 3: and it itself, are a RING: of one", Rows.rule(0, 1, true, 16) + rings(0, 0, 0) + Rows.workedJust(0));
        Rows.run("Terms 3: and it itself, are a RING: of one behind its other INPUTS",
            Rows.row(0, 1) + Rows.rule(0, 1, true, 0, 0, 0, 0, 0, 16) + rings(0, 0, 0));
        Rows.run("Terms 3: FAILURE RING with the least of them: asked first",
            Rows.rule(0, 1, true, 17) + Rows.rule(1, 1, true, 16) + rings(0, 0, 0, 1));
        Rows.run("Terms 3: FAILURE RING with the least of them: asked last",
            Rows.rule(0, 1, true, 17) + Rows.rule(1, 1, true, 16) + rings(1, 0, 0, 1));
        String three = "rule(1, true) = 0; rule(1, true) = 1\n"
            + Rows.rule(2, 1, true, 19) + Rows.rule(3, 1, true, 20) + Rows.rule(4, 1, true, 18);
        Rows.run("Terms 3: FAILURE RING with the least of them: between", three + rings(3, 2, 2, 3, 4) + Rows.workedJust(3, 4, 2));
        Rows.run("Terms 3: FAILURE RING with the least of them: from each of the three",
            three + rings(2, 2, 2, 3, 4) + rings(4, 2, 2, 3, 4) + rings(3, 2, 2, 3, 4));
    }

    private static void notInIt() {
        String ring = Rows.rule(1, 1, true, 18) + Rows.rule(2, 1, true, 17);
        Rows.run("Terms 3: all RULES that were opened since: one that was opened before isn't in it",
            Rows.rule(0, 1, true, 18) + ring + rings(0, 1, 1, 2) + Rows.workedJust(0, 2, 1) + "of(0, 3) = 1\n" + Rows.reads(0, 18));
        Rows.run("Terms 3: all RULES that were opened since: a lenient one that was opened before",
            Rows.rule(0, 1, false, 18) + ring + "make(0) = 0; outcome(1) = 0; of(0, 3) = 1; ring(0) = -1");
        Rows.run("Terms 3: and are OPEN: one that was closed before isn't in it",
            Rows.rule(0, 1, true) + Rows.rule(1, 1, true, 16, 18) + Rows.rule(2, 1, true, 16, 17) + rings(2, 1, 1, 2) + "of(0, 3) = 1");
        Rows.run("Terms 3: and are OPEN: one that is made of a TRACE isn't in it",
            Rows.rule(0, 1, true) + Rows.rule(1, 1, true, 16, 18) + Rows.rule(2, 1, true, 16, 17) + "make(0) = 0\n" + rings(2, 1, 1, 2)
            + Rows.workedJust(2, 1));
        Rows.run("Terms 3: and are OPEN: one that is in another ring isn't in it",
            Rows.rule(0, 1, true, 16) + Rows.rule(1, 1, false, 16, 18) + Rows.rule(2, 1, true, 17) + rings(2, 1, 1, 2) + rings(0, 0, 0));
        Rows.run("Terms 3: two that were opened before, and two in it",
            Rows.rule(0, 1, true, 17) + Rows.rule(1, 1, true, 18) + Rows.rule(2, 1, true, 19) + Rows.rule(3, 1, true, 18)
            + rings(0, 2, 2, 3) + "of(0, 3) = 1; of(1, 3) = 1; of(2, 3) = 0; of(3, 3) = 0");
    }

    private static void strictOrLenient() {
        for (int i = 0; i < 4; i++) {
            boolean first = i % 2 == 0;
            boolean second = i < 2;
            Rows.run("Terms 3: (A STRICT or LENIENT one alike.) " + first + ", " + second,
                Rows.rule(0, 1, first, 17) + Rows.rule(1, 1, second, 16) + rings(0, 0, 0, 1) + rings(1, 0, 0, 1));
        }
        Rows.run("Terms 3: each of them is HIT: the lenient one between too",
            Rows.rule(0, 1, true, 17) + Rows.rule(1, 1, false, 18) + Rows.rule(2, 1, true, 16) + rings(0, 0, 0, 1, 2) + "count(3) = 0\n"
            + rings(1, 0, 0, 1, 2) + rings(2, 0, 0, 1, 2));
        Rows.run("Terms 3: (A STRICT or LENIENT one alike.) with another row ahead",
            Rows.row(0, 4) + Rows.rule(0, 1, false, 0, 16, 0) + rings(0, 0, 0));
    }

    private static void hitReadsNoFurther() {
        Rows.run("Terms 3: if it is HIT behind one: (c): no further INPUT is read",
            Rows.rule(0, 1, false, 17, 18) + Rows.rule(1, 1, false, 16, 18) + "rule(1, true) = 2\n" + rings(0, 0, 0, 1)
            + Rows.workedJust(0, 1));
        Rows.run("Terms 3: if it is HIT behind one: (c): ahead of what is LONG",
            "source(0, 16) = 16\n" + Rows.rule(0, 1, true, 0, 16, 0) + rings(0, 0, 0));
        Rows.run("Terms 3: LONG ahead of what would be a RING",
            "source(0, 16) = 16\n" + Rows.rule(0, 1, true, 0, 0, 16) + "make(0) = -12; outcome(2) = 0; ring(0) = -1");
        Rows.run("Terms 3: NONE ahead of what would be a RING, STRICT",
            Rows.rule(0, 1, true, 3, 16) + "make(0) = -11; outcome(2) = 3; ring(0) = -1; of(0, 3) = 1");
        Rows.run("Terms 3: NONE ahead of what is a RING, LENIENT", Rows.rule(0, 1, false, 3, 16) + rings(0, 0, 0) + "of(0, 3) = 0");
    }

    private static void hitWhileLookedAt() {
        String pair = Rows.row(0, 1) + Rows.row(1, 1) + Rows.rule(0, 1, true, 0, 17, 1) + Rows.rule(1, 1, true, 0) + "make(0) = 3\n";
        Rows.run("Terms 3: if the RULE is HIT behind that: (c): in its only TRACE",
            pair + "turn(1, 0, 16) = 1\n" + rings(0, 0, 0, 1) + Rows.workedJust(1) + "looked() = 2; stale(0, 0) = -1; stale(0, 1) = -1\n"
            + "stale(1, 0) = -1");
        Rows.run("Terms 3: if the RULE is HIT behind that: (c): the next TRACE isn't gone over",
            pair + "set(0, 0, 2) = 1; make(0) = 3; of(0, 3) = 2; turn(1, 0, 16) = 1\n" + rings(0, 0, 0, 1)
            + "looked() = 2; stale(0, 0) = -1; stale(0, 1) = -1");
        Rows.run("Terms 3: if the RULE is HIT behind that: (c): in its second TRACE",
            pair + "set(0, 0, 2) = 1; make(0) = 3; set(0, 0, 1) = 1; turn(1, 0, 16) = 1\n" + rings(0, 0, 0, 1) + "looked() = 3\n"
            + "stale(0, 0) = 0; stale(0, 1) = -1; stale(0, 2) = -1\n" + Rows.workedJust(1));
        Rows.run("Terms 3: HIT when it is WORKED, behind a TRACE that isn't so",
            pair + "set(0, 0, 2) = 1; turn(1, 0, 16) = 1\n" + rings(0, 0, 0, 1) + "looked() = 1; stale(0, 0) = 0; stale(0, 1) = -1\n"
            + Rows.workedJust(0, 1));
        // 1 reads 2, which reads 0, which picks source 1 at first, and then picks 1
        Rows.run("Terms 3: both HIT while they are LOOKED AT",
            Rows.row(0, 0) + Rows.row(1, 7) + Rows.rule(0, 5, true, 0, 1, 17) + Rows.rule(1, 1, true, 18) + Rows.rule(2, 1, true, 16)
            + "make(1) = 1; set(0, 0, 1) = 1\n" + rings(1, 0, 0, 1, 2) + Rows.workedJust(0)
            + "looked() = 3; stale(0, 0) = 0; stale(1, 0) = -1; stale(2, 0) = -1");
    }

    private static void hitBehindARead() {
        // 0 was a ring of its own when 1 read it; now it asks 1: the outcome is the same, 1 is HIT
        Rows.run("Terms 3: HIT goes ahead of an OUTCOME that is as it was",
            Rows.rule(0, 1, true, 16) + Rows.rule(1, 1, false, 16) + "make(1) = 0; of(1, 3) = 1; turn(0, 0, 17) = 1\n" + rings(1, 0, 0, 1)
            + "stale(1, 0) = -1; looked() = 1; of(1, 3) = 1\n" + Rows.workedJust(0));
        Rows.run("Terms 3: one that isn't HIT takes the same OUTCOME as it was",
            Rows.rule(0, 1, true, 16) + Rows.rule(1, 1, false, 16) + "rule(1, true) = 2; make(1) = 0; turn(0, 0, 18) = 1\n"
            + "input(2, 16) = 1; make(1) = 0\n" + "stale(1, 0) = -2; looked() = 1\n" + Rows.workedJust(0, 2));
        Rows.run("Terms 3: HIT goes ahead of an OUTCOME that is another one",
            Rows.row(0, 1) + Rows.rule(0, 1, true, 17) + Rows.rule(1, 1, true, 0) + "make(0) = 1; turn(1, 0, 16) = 1\n" + rings(0, 0, 0, 1)
            + "stale(0, 0) = -1");
    }

    private static void noTraceIsKept() {
        Rows.run("Terms 3: no TRACE is kept: none comes of (b)",
            Rows.rule(0, 1, true, 17) + Rows.rule(1, 1, true, 16) + rings(0, 0, 0, 1) + "of(0, 3) = 0; of(1, 3) = 0; count(3) = 0\n"
            + "trace(0, 0, -1) = -1\n" + rings(0, 0, 0, 1) + Rows.workedJust(0, 1));
        Rows.run("Terms 3: no TRACE is kept: one behind the ring keeps its own",
            Rows.rule(0, 1, true, 16) + Rows.rule(1, 1, true, 16) + rings(1, 0, 0) + "of(0, 3) = 0; of(1, 3) = 1\n" + rings(1, 0, 0)
            + Rows.workedJust(0) + "stale(1, 0) = -2; looked() = 1");
        Rows.run("Terms 3: no TRACE is kept: those that came before stay, and none was used",
            Rows.row(0, 1) + Rows.row(1, 1) + Rows.rule(0, 1, true, 0, 17) + Rows.rule(1, 1, true, 1) + "make(0) = 2; set(0, 0, 2) = 1\n"
            + "make(0) = 2; of(0, 3) = 2; turn(1, 0, 16) = 1; set(0, 0, 1) = 1\n" + rings(0, 0, 0, 1) + "of(0, 3) = 2; turn(1, 0, 1) = 1\n"
            + "set(0, 0, 2) = 1; make(0) = 2; stale(0, 0) = -2");
    }

    private static void notOpenAnyMore() {
        String pair = Rows.rule(0, 1, true, 17) + Rows.rule(1, 1, true, 16);
        Rows.run("Terms 3: it isn't OPEN any more: asked again in the ROUND, it has its OUTCOME",
            pair + Rows.rule(2, 1, false, 16, 17, 16) + "make(2) = 0\n" + Rows.reads(2, 16, 17, 16) + Rows.workedJust(2, 0, 1)
            + "ring(0) = -1");
        Rows.run("Terms 3: it isn't OPEN any more: one that reads two of them is in no RING",
            pair + Rows.rule(2, 1, true, 17, 16) + rings(2, 0, 0, 1) + "of(2, 3) = 1\n" + Rows.reads(2, 17));
        Rows.run("Terms 3: it isn't OPEN any more: in the next ROUND",
            pair + rings(0, 0, 0, 1) + "turn(1, 0, 39) = 1; make(0) = -14; outcome(2) = 39; ring(0) = -1; source(5, 2) = 2\n"
            + "turn(1, 0, 5) = 1; make(0) = 2; outcome(1) = 0");
        Rows.run("Terms 3: it isn't OPEN any more: made in (b), and asked again",
            Rows.rule(0, 1, true, 17, 18) + Rows.rule(1, 1, true) + Rows.rule(2, 1, true, 17) + "make(0) = 0; outcome(1) = 0\n"
            + Rows.workedJust(0, 1, 2));
        Rows.run("Terms 3: it isn't OPEN any more: made in (a), and asked again",
            Rows.rule(0, 1, true, 17, 18) + Rows.rule(1, 1, true) + Rows.rule(2, 1, true, 17)
            + "make(0) = 0; make(0) = 0; outcome(1) = 0; looked() = 3");
    }

    private static void onlyWhatIsRead() {
        Rows.run("Terms 3: a RULE that would be asked, but isn't, makes no RING",
            Rows.row(0, 0) + Rows.row(1, 7) + Rows.rule(0, 5, true, 0, 1, 17) + Rows.rule(1, 1, true, 16)
            + "make(0) = 1; part(0) = 7; make(1) = 1; set(0, 0, 1) = 1\n" + rings(0, 0, 0, 1)
            + "set(0, 0, 2) = 1; make(0) = 1; part(0) = 7; ring(0) = -1");
        Rows.run("Terms 3: FIRST that ends ahead of it makes no RING",
            Rows.row(0, 0) + Rows.rule(0, 4, true, 0, 16) + "make(0) = 1; source(0, 0) = 0\n" + rings(0, 0, 0)
            + "source(0, 1) = 1; make(0) = 1; worked(0) = -1");
    }

    private static void eachKind() {
        for (int kind = 1; kind <= 6; kind++) {
            for (boolean strict : new boolean[] {true, false}) {
                Rows.run("Terms 3: a RING by INPUT 0, kind " + kind + ", strict " + strict,
                    Rows.row(0, 0) + Rows.rule(0, kind, strict, 17, 0) + Rows.rule(1, kind, strict, 16, 0) + rings(0, 0, 0, 1)
                    + rings(1, 0, 0, 1) + "count(3) = 0");
                int before = kind == 4 ? 1 : 0;
                Rows.run("Terms 3: a RING by INPUT 1, kind " + kind + ", strict " + strict,
                    Rows.row(0, 0) + Rows.row(1) + Rows.rule(0, kind, strict, before, 16) + rings(0, 0, 0) + "count(3) = 0");
            }
        }
    }

    private static void fromNothing() {
        String pair = Rows.row(0, 1) + Rows.rule(0, 1, true, 17) + Rows.rule(1, 1, true, 0);
        Rows.run("Terms 3: From NOTHING: a RING",
            Rows.rule(0, 1, false, 17) + Rows.rule(1, 1, true, 16) + "anew(1) = -13; outcome(1) = 3; outcome(2) = 0\n" + Rows.ringOf(0, 1)
            + "count(3) = 0; worked(0) = -1; looked() = 0");
        Rows.run("Terms 3: From NOTHING: a RING, TRACES that were kept stay",
            pair + "make(0) = 1; turn(1, 0, 16) = 1; anew(0) = -13; outcome(2) = 0\n" + Rows.ringOf(0, 1) + "of(0, 3) = 1\n"
            + "stale(0, 0) = -1; turn(1, 0, 0) = 1; make(0) = 1; stale(0, 0) = -2");
    }

    private static void told() {
        Rows.run("19: -1 if there is none such: before any", "ring(0) = -1; rule(1, true) = 0; ring(0) = -1");
        Rows.run("19: -1 if there is none such: a row", "rule(1, true) = 0; make(0) = 0; ring(0) = -1");
        Rows.run("19: -1 if there is none such: another FAILURE",
            "source(1, 16) = 16\n" + Rows.rule(0, 1, true, 0) + Rows.rule(1, 1, true, 39) + Rows.rule(2, 1, true, 1, 1) + "make(0) = -11\n"
            + "ring(0) = -1; make(1) = -14; ring(0) = -1; make(2) = -12; ring(0) = -1");
        Rows.run("19: -1 if there is none such: i",
            Rows.rule(0, 1, true, 17) + Rows.rule(1, 1, true, 16) + "make(0) = -13; ring(-1) = -1; ring(0) = 0; ring(1) = 1; ring(2) = -1\n"
            + "ring(23) = -1; ring(24) = -1; ring(MAX) = -1; ring(MIN) = -1; found(0) = 0");
        Rows.run("19: (rising, from 0 on)",
            "rule(1, true) = 0\n" + Rows.rule(1, 1, true, 20) + "rule(1, true) = 2\n" + Rows.rule(3, 1, true, 17)
            + Rows.rule(4, 1, true, 21) + Rows.rule(5, 1, true, 19) + rings(4, 1, 1, 3, 4, 5) + Rows.workedJust(4, 5, 3, 1));
        Rows.run("19: of the RING by which that OUTCOME is a FAILURE RING: the first of two",
            Rows.rule(0, 1, true, 16) + Rows.rule(1, 1, true, 17) + Rows.rule(2, 1, true, 17, 16) + rings(2, 1, 1));
        Rows.run("19: of the RING by which that OUTCOME is a FAILURE RING: the last of two",
            Rows.rule(0, 1, true, 16) + Rows.rule(1, 1, false, 16) + Rows.rule(2, 1, true, 17, 18 + 1) + Rows.rule(3, 1, true, 19)
            + rings(2, 3, 3));
        Rows.run("19: asked through others, and of a TRACE",
            Rows.rule(0, 1, true, 16) + Rows.rule(1, 1, true, 16) + Rows.rule(2, 1, true, 17) + rings(2, 0, 0) + rings(2, 0, 0)
            + Rows.workedJust(0) + "stale(2, 0) = -2");
    }

    private static void toldUntilTheNext() {
        String pair = Rows.rule(0, 1, true, 17) + Rows.rule(1, 1, true, 16) + rings(0, 0, 0, 1);
        Rows.run("19: that OUTCOME stays until a ROUND is done: a refused one",
            pair + "make(2) = NUMBER; anew(2) = NUMBER; make(-1) = NUMBER\n" + Rows.ringOf(0, 1) + "outcome(1) = 3");
        Rows.run("19: that OUTCOME stays until a ROUND is done: changes",
            pair + "turn(1, 0, 5) = 1; become(0, 2, false) = 1; forget(0) = 0; rule(1, true) = 2; source(5, 1) = 1\n" + Rows.ringOf(0, 1)
            + "outcome(1) = 3; make(2) = 0; ring(0) = -1");
        Rows.run("19: of the latest make() or anew()",
            pair + Rows.rule(2, 1, true, 18) + "anew(2) = -13\n" + Rows.ringOf(2) + "make(1) = -13\n" + Rows.ringOf(0, 1)
            + "turn(2, 0, 3) = 1; anew(2) = -11; ring(0) = -1");
    }

    private static void longest() {
        String all = Rows.each(0, 24, r -> Rows.rule(r, 1, r % 2 == 0, r == 23 ? 16 : 17 + r).strip());
        int[] ring = new int[24];
        int[] worked = new int[24];
        for (int i = 0; i < 24; i++) {
            ring[i] = i;
            worked[i] = (i + 11) % 24;
        }
        Rows.run("Terms 3: a RING of all 24",
            all + rings(11, 0, ring) + Rows.workedJust(worked) + "ring(24) = -1; count(2) = 24; count(3) = 0; looked() = 0\n"
            + "anew(23) = -13; outcome(2) = 0; ring(23) = 23; ring(24) = -1");
        Rows.run("Terms 3: 24 OPEN, of which the last is a RING of its own",
            all + "turn(23, 0, 39) = 1; become(22, 1, true) = 1; make(22) = -13; outcome(2) = 23\n" + Rows.ringOf(23)
            + "make(21) = 0; make(0) = 0; worked(23) = -1; outcome(1) = 0");
        Rows.run("Terms 3: 24 OPEN, and no RING",
            all + "turn(23, 0, 15) = 1; source(15, 1) = 1; make(0) = 1; worked(0) = 0; worked(23) = 23; worked(24) = -1; count(3) = 24\n"
            + "make(0) = 1; looked() = 24");
    }
}

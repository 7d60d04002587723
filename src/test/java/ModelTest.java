import java.util.Arrays;
import java.util.Random;

/** Long runs of mixed calls, the same ones each time, against the model of the document. */
public final class ModelTest {
    private static final int RUNS = 6000;
    private static final int CALLS = 512;
    private static final int[] ODD = {-2, -1, 16, 17, 24, 25, 39, 40, 41, Integer.MAX_VALUE, Integer.MIN_VALUE};

    private final Random random;
    private final RemakeShelf shelf = new RemakeShelf();
    private final Model model = new Model();
    private final int run;
    private final int sources;
    private final int rules;
    private final int ints;
    private final boolean rings;
    private final boolean turning;

    private ModelTest(int run) {
        this.run = run;
        random = new Random(run);
        sources = 1 + random.nextInt(run % 3 == 0 ? 16 : 4);
        rules = 1 + random.nextInt(run % 4 == 0 ? 24 : 6);
        ints = random.nextInt(run % 5 == 0 ? 17 : 4);
        rings = run % 2 == 0;
        turning = run % 7 < 3;
    }

    public static void main(String[] args) {
        for (int run = 0; run < RUNS; run++) {
            new ModelTest(run).go();
        }
        Rows.end();
    }

    private void go() {
        int calls = 0;
        for (int s = 0; s < sources; s++, calls++) {
            ask("source", s, random.nextInt(ints + 1));
        }
        for (int r = 0; r < rules; r++, calls++) {
            ask("rule", 1 + random.nextInt(6), random.nextInt(2));
            for (int i = random.nextInt(7); i > 0; i--, calls++) {
                ask("input", r, name(r));
            }
        }
        for (; calls < CALLS; calls++) {
            int at = random.nextInt(100);
            if (at < 25) {
                change();
            } else if (at < 28) {
                odd();
            } else if (at < 60) {
                ask(random.nextInt(8) == 0 ? "anew" : "make", random.nextInt(rules));
            } else {
                look();
            }
        }
    }

    private int name(int r) {
        if (random.nextInt(40) == 0) {
            return random.nextInt(40);
        }
        if (random.nextBoolean()) {
            return random.nextInt(sources);
        }
        return 16 + (rings ? random.nextInt(rules) : Math.min(39, r + 1 + random.nextInt(3)));
    }

    private void change() {
        int s = random.nextInt(sources);
        int r = random.nextInt(rules);
        int at = random.nextInt(turning ? 20 : 14);
        if (at < 9) {
            ask("set", s, random.nextInt(ints + 1), random.nextInt(3) - 1);
        } else if (at < 11) {
            ask("source", s, random.nextInt(ints + 1));
        } else if (at < 12) {
            ask("miss", s);
        } else if (at < 14) {
            ask("copy", s, random.nextInt(3), random.nextInt(sources), random.nextInt(3), random.nextInt(ints + 1));
        } else if (at < 18) {
            ask("turn", r, random.nextInt(4), name(r));
        } else if (at < 19) {
            ask("become", r, 1 + random.nextInt(6), random.nextInt(2));
        } else {
            ask(random.nextBoolean() ? "forget" : "rule", random.nextBoolean() ? r : 1 + r % 6, 0);
        }
    }

    private void look() {
        int r = random.nextInt(rules);
        switch (random.nextInt(12)) {
            case 0: ask("outcome", random.nextInt(4)); break;
            case 1: ask("part", random.nextInt(8)); break;
            case 2: ask("ring", random.nextInt(5)); break;
            case 3: ask("worked", random.nextInt(6)); break;
            case 4: ask("looked"); break;
            case 5: case 6: ask("stale", r, random.nextInt(5)); break;
            case 7: ask("count", random.nextInt(5)); break;
            case 8: ask("found", random.nextInt(6)); break;
            case 9: ask("of", r, random.nextInt(10)); break;
            case 10: ask("trace", r, random.nextInt(5), random.nextInt(8) - 1); break;
            default: ask(random.nextBoolean() ? "told" : "size", random.nextInt(sources), random.nextInt(4)); break;
        }
    }

    private void odd() {
        String[] names = {"source", "set", "miss", "copy", "size", "told", "rule", "input", "turn", "become", "forget", "of",
            "trace", "make", "anew", "outcome", "part", "ring", "worked", "stale", "count", "found"};
        int[] a = new int[5];
        for (int i = 0; i < a.length; i++) {
            a[i] = random.nextInt(3) == 0 ? ODD[random.nextInt(ODD.length)] : random.nextInt(6);
        }
        ask(names[random.nextInt(names.length)], a);
    }

    private void ask(String name, int... a) {
        int want = model.call(name, a);
        int got = answer(name, a);
        if (got == want) {
            Rows.right();
        } else {
            Rows.tell("run " + run, name + Arrays.toString(a) + " answered " + got + ", due is " + want);
        }
    }

    private int answer(String name, int... a) {
        switch (name) {
            case "source": return shelf.source(a[0], a[1]);
            case "set": return shelf.set(a[0], a[1], a[2]);
            case "miss": return shelf.miss(a[0]);
            case "copy": return shelf.copy(a[0], a[1], a[2], a[3], a[4]);
            case "size": return shelf.size(a[0]);
            case "told": return shelf.told(a[0], a[1]);
            case "rule": return shelf.rule(a[0], a[1] == 1);
            case "input": return shelf.input(a[0], a[1]);
            case "turn": return shelf.turn(a[0], a[1], a[2]);
            case "become": return shelf.become(a[0], a[1], a[2] == 1);
            case "forget": return shelf.forget(a[0]);
            case "of": return shelf.of(a[0], a[1]);
            case "trace": return shelf.trace(a[0], a[1], a[2]);
            case "make": return shelf.make(a[0]);
            case "anew": return shelf.anew(a[0]);
            case "outcome": return shelf.outcome(a[0]);
            case "part": return shelf.part(a[0]);
            case "ring": return shelf.ring(a[0]);
            case "worked": return shelf.worked(a[0]);
            case "looked": return shelf.looked();
            case "stale": return shelf.stale(a[0], a[1]);
            case "count": return shelf.count(a[0]);
            case "found": return shelf.found(a[0]);
            default: throw new IllegalArgumentException(name);
        }
    }
}

import java.util.ArrayList;
import java.util.List;
import java.util.Random;

/** Seeded runs of calls: the program answers as PlainModel does, and KEPT entries do what they did. */
public final class ModelTest {
    private static final int RUNS = 4000;
    private static final int CALLS = 200;
    private static final int MOST_CALLS = 512;

    private static final Checks checks = new Checks();

    private final Random random;
    private final CodeShrinker program = new CodeShrinker();
    private final PlainModel model = new PlainModel();
    private final String name;
    /** Few NAMES and ARITIES make many alike. */
    private final int names;
    private final int arities;
    private final int roots;
    private int spent = 0;

    private ModelTest(int seed) {
        random = new Random(seed);
        name = "seed " + seed;
        names = 1 + random.nextInt(random.nextBoolean() ? 4 : 26);
        arities = 1 + random.nextInt(3);
        roots = 1 + random.nextInt(8);
    }

    public static void main(String[] args) {
        for (int seed = 0; seed < RUNS; seed++) {
            new ModelTest(seed).whole();
        }
        checks.finish();
    }

    private void whole() {
        for (int call = 0; call < CALLS; call++) {
            one();
        }
        // What is left of an object's 512 calls looks at what can be seen.
        everyClass();
        everyMethod();
    }

    private void one() {
        int pick = random.nextInt(100);
        if (pick < 8) {
            int parent = random.nextInt(roots) == 0 ? -1 : aClass();
            same("add " + parent, () -> program.add(parent), () -> model.add(parent));
        } else if (pick < 28) {
            int c = aClass();
            int n = aName();
            int a = anArity();
            same("method " + c + " " + n + " " + a, () -> program.method(c, n, a), () -> model.method(c, n, a));
        } else if (pick < 68) {
            anItem();
        } else if (pick < 74) {
            int m = aMethod();
            boolean kept = random.nextInt(3) != 0;
            same("keep " + m + " " + kept, Checks.asCall(() -> program.keep(m, kept)),
                    Checks.asCall(() -> model.keep(m, kept)));
        } else if (pick < 96) {
            asked(pick);
        } else if (pick < 98) {
            List<String> before = keptOutcomes();
            same("shrink", program::shrink, model::shrink);
            checks.compare(name + ": KEPT entries after shrink", before.toString(), keptOutcomes().toString());
        } else {
            List<String> before = keptOutcomes();
            same("rename", program::rename, model::rename);
            checks.compare(name + ": KEPT entries after rename", before.toString(), keptOutcomes().toString());
        }
    }

    private void anItem() {
        int m = aMethod();
        int kind = random.nextInt(50) == 0 ? random.nextInt(5) - 1 : random.nextInt(3);
        int a = kind == 0 ? random.nextInt() : aClass();
        int b = aName();
        int c = anArity();
        same("item " + m + " " + kind + " " + a + " " + b + " " + c,
                () -> program.item(m, kind, a, b, c), () -> model.item(m, kind, a, b, c));
    }

    private void asked(int pick) {
        int c = aClass();
        int n = aName();
        int a = anArity();
        int m = aMethod();
        int what = random.nextInt(10) - 1;
        int i = random.nextInt(7) - 1;
        if (pick < 84) {
            same("run " + c + " " + n + " " + a, () -> program.run(c, n, a), () -> model.run(c, n, a));
        } else if (pick < 87) {
            same("trace " + c + " " + n + " " + a, () -> program.trace(c, n, a), () -> model.trace(c, n, a));
        } else if (pick < 90) {
            same("told " + m + " " + what, () -> program.told(m, what), () -> model.told(m, what));
        } else if (pick < 93) {
            same("inside " + m + " " + i + " " + what, () -> program.inside(m, i, what),
                    () -> model.inside(m, i, what));
        } else {
            int w = random.nextInt(22) - 2;
            same("count " + w, () -> program.count(w), () -> model.count(w));
        }
    }

    private int aClass() {
        int many = model.count(0);
        return random.nextInt(40) == 0 || many == 0 ? random.nextInt(11) - 2 : random.nextInt(many);
    }

    private int aMethod() {
        int many = model.count(1);
        return random.nextInt(40) == 0 || many == 0 ? random.nextInt(28) - 2 : random.nextInt(many);
    }

    private int aName() {
        return random.nextInt(40) == 0 ? random.nextInt(30) - 2 : random.nextInt(names);
    }

    private int anArity() {
        return random.nextInt(40) == 0 ? random.nextInt(6) - 2 : random.nextInt(arities);
    }

    /** What RUNNING each KEPT METHOD gives, in order; SHRINKING and RENAMING leave that order alone. */
    private List<String> keptOutcomes() {
        List<String> outcomes = new ArrayList<>();
        for (int m = 0; m < model.count(1); m++) {
            if (model.told(m, 4) == 1) {
                int at = m;
                spent++;
                outcomes.add(Checks.told(() -> program.run(model.told(at, 0), model.told(at, 1), model.told(at, 2))));
            }
        }
        return outcomes;
    }

    private void everyClass() {
        for (int what = -1; what < 19; what++) {
            int w = what;
            same("count " + w, () -> program.count(w), () -> model.count(w));
        }
    }

    private void everyMethod() {
        int many = model.count(1);
        int first = random.nextInt(many + 1);
        for (int m = 0; m < many; m++) {
            int at = (first + m) % many;
            for (int what = 0; what < 8; what++) {
                int w = what;
                same("told " + at + " " + w, () -> program.told(at, w), () -> model.told(at, w));
            }
            for (int k = 0; k < 20; k++) {
                int i = k / 4;
                int w = k % 4;
                same("inside " + at + " " + i + " " + w, () -> program.inside(at, i, w),
                        () -> model.inside(at, i, w));
            }
        }
    }

    private void same(String call, Checks.Call ofProgram, Checks.Call ofModel) {
        if (spent < MOST_CALLS) {
            spent++;
            checks.compare(name + ": " + call, Checks.told(ofModel), Checks.told(ofProgram));
        }
    }
}

/** Promises 2 to 5, 9 and 10, and what promise 12 tells of CLASSES and METHODS: the ordinary cases. */
public final class BuildingTest {
    private static final Checks checks = new Checks();

    public static void main(String[] args) {
        addNumbersClasses();
        methodNumbersMethods();
        itemAppends();
        keepSetsAndUnsets();
        toldOfAMethod();
        insideOfItems();
        checks.finish();
    }

    private static void addNumbersClasses() {
        CodeShrinker x = new CodeShrinker();
        checks.due("add(-1)", 0, () -> x.add(-1));
        checks.due("add(0)", 1, () -> x.add(0));
        checks.due("second add(-1)", 2, () -> x.add(-1));
        checks.due("add(1)", 3, () -> x.add(1));
        checks.due("count(0)", 4, () -> x.count(0));
        checks.due("PARENT of 0", -1, () -> x.count(10));
        checks.due("PARENT of 1", 0, () -> x.count(11));
        checks.due("PARENT of 2", -1, () -> x.count(12));
        checks.due("PARENT of 3", 1, () -> x.count(13));
        checks.due("PARENT of no CLASS", -2, () -> x.count(14));
    }

    private static void methodNumbersMethods() {
        CodeShrinker x = new CodeShrinker();
        x.add(-1);
        x.add(0);
        checks.due("method(0, 25, 2)", 0, () -> x.method(0, 25, 2));
        checks.due("other NAME", 1, () -> x.method(0, 0, 2));
        checks.due("other ARITY", 2, () -> x.method(0, 25, 0));
        checks.due("other CLASS", 3, () -> x.method(1, 25, 2));
        checks.due("count(1)", 4, () -> x.count(1));
    }

    private static void fillMethods(CodeShrinker x) {
        x.add(-1);
        for (int m = 0; m < 24; m++) {
            x.method(0, m, m % 3);
        }
    }

    private static void itemAppends() {
        CodeShrinker x = new CodeShrinker();
        fillMethods(x);
        checks.due("first ITEM", 1, () -> x.item(23, 0, 4, 0, 0));
        checks.due("second ITEM", 2, () -> x.item(23, 1, 0, 25, 2));
        checks.due("third ITEM", 3, () -> x.item(23, 2, 0, 25, 2));
        checks.due("fourth ITEM", 4, () -> x.item(23, 0, 4, 0, 0));
        checks.due("fifth ITEM", 5, () -> x.item(23, 0, 4, 0, 0));
        checks.due("still 5 ITEMS", 5, () -> x.told(23, 3));
        checks.due("another METHOD has none", 0, () -> x.told(22, 3));
    }

    private static void keepSetsAndUnsets() {
        CodeShrinker x = new CodeShrinker();
        x.add(-1);
        x.method(0, 0, 0);
        x.method(0, 1, 0);
        checks.due("not KEPT at first", 0, () -> x.told(1, 4));
        checks.dueNothing("keep(1, true)", () -> x.keep(1, true));
        checks.due("KEPT", 1, () -> x.told(1, 4));
        checks.due("the other isn't", 0, () -> x.told(0, 4));
        checks.dueNothing("keep(1, true) again", () -> x.keep(1, true));
        checks.due("still KEPT", 1, () -> x.told(1, 4));
        checks.dueNothing("keep(1, false)", () -> x.keep(1, false));
        checks.due("KEPT no more", 0, () -> x.told(1, 4));
    }

    private static void toldOfAMethod() {
        CodeShrinker x = new CodeShrinker();
        x.add(-1);
        x.add(0);
        x.method(0, 4, 0);
        x.method(1, 17, 2);
        x.item(1, 0, 3, 0, 0);
        x.keep(1, true);
        long[] due = {1, 17, 2, 1, 1, 1, 17, 1};
        for (int what = 0; what < 8; what++) {
            int w = what;
            checks.due("told(1, " + w + ")", due[w], () -> x.told(1, w));
        }
    }

    private static void insideOfItems() {
        CodeShrinker x = new CodeShrinker();
        x.add(-1);
        x.add(-1);
        x.method(0, 4, 0);
        x.item(0, 0, -77, 3, 2);
        x.item(0, 1, 1, 9, 2);
        x.item(0, 2, 1, 8, 1);
        long[][] due = {{0, -77, -1, -1}, {1, 1, 9, 2}, {2, -1, 8, 1}};
        for (int i = 0; i < 3; i++) {
            for (int what = 0; what < 4; what++) {
                int at = i;
                int w = what;
                checks.due("inside(0, " + at + ", " + w + ")", due[at][w], () -> x.inside(0, at, w));
            }
        }
    }
}

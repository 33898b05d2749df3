/** Promises 1 to 5, 9 and 10, and what promise 12 tells of CLASSES and METHODS. */
public final class BuildingTest {
    private static final Class<IllegalArgumentException> BAD = IllegalArgumentException.class;
    private static final Class<IllegalStateException> NO_ROOM = IllegalStateException.class;
    private static final Class<java.util.NoSuchElementException> NO_SUCH = java.util.NoSuchElementException.class;
    private static final int[] FAR_OUT = {-1, Integer.MIN_VALUE, Integer.MAX_VALUE};

    private static final Checks checks = new Checks();

    public static void main(String[] args) {
        newObject();
        addNumbersClasses();
        addRefuses();
        methodNumbersMethods();
        methodRefuses();
        itemAppends();
        itemIgnoresWhatItsKindHasNoUseFor();
        itemRefuses();
        keepSetsAndUnsets();
        toldOfAMethod();
        insideOfItems();
        countOfEverythingElse();
        checks.finish();
    }

    private static void newObject() {
        CodeShrinker x = new CodeShrinker();
        for (int what = 0; what <= 4; what++) {
            int w = what;
            checks.due("new: count(" + w + ")", 0, () -> x.count(w));
        }
        checks.due("new: count(10)", -2, () -> x.count(10));
        checks.dueThrow("new: method(0, 0, 0)", BAD, () -> x.method(0, 0, 0));
        checks.dueThrow("new: run(0, 0, 0)", BAD, () -> x.run(0, 0, 0));
        checks.dueThrow("new: trace(0, 0, 0)", BAD, () -> x.trace(0, 0, 0));
        checks.dueThrow("new: told(0, 0)", BAD, () -> x.told(0, 0));
        checks.dueThrow("new: inside(0, 0, 0)", BAD, () -> x.inside(0, 0, 0));
        checks.dueThrowOf("new: keep(0, true)", BAD, () -> x.keep(0, true));
        checks.due("new: shrink()", 0, x::shrink);
        checks.due("new: rename()", 0, x::rename);
        CodeShrinker y = new CodeShrinker();
        x.add(-1);
        checks.due("objects share nothing", 0, () -> y.count(0));
    }

    private static void addNumbersClasses() {
        CodeShrinker x = new CodeShrinker();
        checks.due("add(-1)", 0, () -> x.add(-1));
        checks.due("add(0)", 1, () -> x.add(0));
        checks.due("second add(-1)", 2, () -> x.add(-1));
        checks.due("add(1)", 3, () -> x.add(1));
        checks.due("count(0)", 4, () -> x.count(0));
        checks.due("PARENT of 0", -1, () -> x.count(10));
        checks.due("PARENT of 1", 0, () -> x.count(11));
        checks.due("PARENT of 2", -1, () -> x.count(12));
        checks.due("PARENT of 3", 1, () -> x.count(13));
        checks.due("PARENT of no CLASS", -2, () -> x.count(14));
    }

    private static void addRefuses() {
        CodeShrinker x = new CodeShrinker();
        checks.dueThrow("add(0) without CLASSES", BAD, () -> x.add(0));
        for (int c = 0; c < 8; c++) {
            x.add(c - 1);
        }
        checks.dueThrow("ninth add(-1)", NO_ROOM, () -> x.add(-1));
        checks.dueThrow("ninth add(7)", NO_ROOM, () -> x.add(7));
        checks.dueThrow("bad comes before no room", BAD, () -> x.add(8));
        for (int out : new int[] {-2, Integer.MIN_VALUE, Integer.MAX_VALUE}) {
            checks.dueThrow("add(" + out + ")", BAD, () -> x.add(out));
        }
        checks.due("refused adds leave no CLASS", 8, () -> x.count(0));
    }

    private static void methodNumbersMethods() {
        CodeShrinker x = new CodeShrinker();
        x.add(-1);
        x.add(0);
        checks.due("method(0, 25, 2)", 0, () -> x.method(0, 25, 2));
        checks.due("other NAME", 1, () -> x.method(0, 0, 2));
        checks.due("other ARITY", 2, () -> x.method(0, 25, 0));
        checks.due("other CLASS", 3, () -> x.method(1, 25, 2));
        checks.due("count(1)", 4, () -> x.count(1));
    }

    private static void methodRefuses() {
        CodeShrinker x = new CodeShrinker();
        x.add(-1);
        x.method(0, 3, 1);
        checks.dueThrow("both alike", NO_ROOM, () -> x.method(0, 3, 1));
        checks.due("a refused METHOD leaves nothing", 1, () -> x.count(1));
        CodeShrinker full = new CodeShrinker();
        fillMethods(full);
        checks.due("24 METHODS", 24, () -> full.count(1));
        checks.dueThrow("25th METHOD", NO_ROOM, () -> full.method(0, 24, 0));
        for (int out : FAR_OUT) {
            checks.dueThrow("full: method(" + out + ", 0, 0)", BAD, () -> full.method(out, 0, 0));
            checks.dueThrow("full: method(0, " + out + ", 0)", BAD, () -> full.method(0, out, 0));
            checks.dueThrow("full: method(0, 0, " + out + ")", BAD, () -> full.method(0, 0, out));
        }
        checks.dueThrow("full: method(1, 0, 0)", BAD, () -> full.method(1, 0, 0));
        checks.dueThrow("full: method(0, 26, 0)", BAD, () -> full.method(0, 26, 0));
        checks.dueThrow("full: method(0, 0, 3)", BAD, () -> full.method(0, 0, 3));
    }

    private static void fillMethods(CodeShrinker x) {
        x.add(-1);
        for (int m = 0; m < 24; m++) {
            x.method(0, m, m % 3);
        }
    }

    private static void itemAppends() {
        CodeShrinker x = new CodeShrinker();
        fillMethods(x);
        checks.due("first ITEM", 1, () -> x.item(23, 0, 4, 0, 0));
        checks.due("second ITEM", 2, () -> x.item(23, 1, 0, 25, 2));
        checks.due("third ITEM", 3, () -> x.item(23, 2, 0, 25, 2));
        checks.due("fourth ITEM", 4, () -> x.item(23, 0, 4, 0, 0));
        checks.due("fifth ITEM", 5, () -> x.item(23, 0, 4, 0, 0));
        checks.dueThrow("sixth ITEM", NO_ROOM, () -> x.item(23, 0, 4, 0, 0));
        checks.dueThrow("sixth ITEM, bad kind", BAD, () -> x.item(23, 3, 4, 0, 0));
        checks.dueThrow("sixth ITEM, bad CLASS", BAD, () -> x.item(23, 1, 1, 0, 0));
        checks.due("still 5 ITEMS", 5, () -> x.told(23, 3));
        checks.due("another METHOD has none", 0, () -> x.told(22, 3));
    }

    private static void itemIgnoresWhatItsKindHasNoUseFor() {
        CodeShrinker x = new CodeShrinker();
        x.add(-1);
        x.method(0, 0, 0);
        checks.due("SAY of the least int", 1, () -> x.item(0, 0, Integer.MIN_VALUE, -9, 99));
        checks.due("SELF with any a", 2, () -> x.item(0, 2, -5, 25, 2));
        checks.due("SELF with a far out", 3, () -> x.item(0, 2, Integer.MAX_VALUE, 0, 0));
        checks.due("v", Integer.MIN_VALUE, () -> x.inside(0, 0, 1));
    }

    private static void itemRefuses() {
        CodeShrinker x = new CodeShrinker();
        x.add(-1);
        x.method(0, 0, 0);
        for (int out : FAR_OUT) {
            checks.dueThrow("item(" + out + ", 0, 0, 0, 0)", BAD, () -> x.item(out, 0, 0, 0, 0));
            checks.dueThrow("item(0, " + out + ", 0, 0, 0)", BAD, () -> x.item(0, out, 0, 0, 0));
            checks.dueThrow("CALL of CLASS " + out, BAD, () -> x.item(0, 1, out, 0, 0));
            for (int kind = 1; kind <= 2; kind++) {
                int k = kind;
                checks.dueThrow("kind " + k + " NAME " + out, BAD, () -> x.item(0, k, 0, out, 0));
                checks.dueThrow("kind " + k + " ARITY " + out, BAD, () -> x.item(0, k, 0, 0, out));
            }
        }
        checks.dueThrow("item(1, ..)", BAD, () -> x.item(1, 0, 0, 0, 0));
        checks.dueThrow("kind 3", BAD, () -> x.item(0, 3, 0, 0, 0));
        checks.dueThrow("CALL of CLASS 1", BAD, () -> x.item(0, 1, 1, 0, 0));
        for (int kind = 1; kind <= 2; kind++) {
            int k = kind;
            checks.dueThrow("kind " + k + " NAME 26", BAD, () -> x.item(0, k, 0, 26, 0));
            checks.dueThrow("kind " + k + " ARITY 3", BAD, () -> x.item(0, k, 0, 0, 3));
        }
        checks.due("refused ITEMS leave nothing", 0, () -> x.told(0, 3));
    }

    private static void keepSetsAndUnsets() {
        CodeShrinker x = new CodeShrinker();
        x.add(-1);
        x.method(0, 0, 0);
        x.method(0, 1, 0);
        checks.due("not KEPT at first", 0, () -> x.told(1, 4));
        checks.dueNothing("keep(1, true)", () -> x.keep(1, true));
        checks.due("KEPT", 1, () -> x.told(1, 4));
        checks.due("the other isn't", 0, () -> x.told(0, 4));
        checks.dueNothing("keep(1, true) again", () -> x.keep(1, true));
        checks.due("still KEPT", 1, () -> x.told(1, 4));
        checks.dueNothing("keep(1, false)", () -> x.keep(1, false));
        checks.due("KEPT no more", 0, () -> x.told(1, 4));
        checks.dueThrowOf("keep(2, false)", BAD, () -> x.keep(2, false));
        for (int out : FAR_OUT) {
            checks.dueThrowOf("keep(" + out + ", true)", BAD, () -> x.keep(out, true));
        }
    }

    private static void toldOfAMethod() {
        CodeShrinker x = new CodeShrinker();
        x.add(-1);
        x.add(0);
        x.method(0, 4, 0);
        x.method(1, 17, 2);
        x.item(1, 0, 3, 0, 0);
        x.keep(1, true);
        long[] due = {1, 17, 2, 1, 1, 1, 17, 1};
        for (int what = 0; what < 8; what++) {
            int w = what;
            checks.due("told(1, " + w + ")", due[w], () -> x.told(1, w));
        }
        checks.dueThrow("told(1, 8)", BAD, () -> x.told(1, 8));
        checks.dueThrow("told(2, 0)", BAD, () -> x.told(2, 0));
        for (int out : FAR_OUT) {
            checks.dueThrow("told(1, " + out + ")", BAD, () -> x.told(1, out));
            checks.dueThrow("told(" + out + ", 1)", BAD, () -> x.told(out, 1));
        }
    }

    private static void insideOfItems() {
        CodeShrinker x = new CodeShrinker();
        x.add(-1);
        x.add(-1);
        x.method(0, 4, 0);
        x.item(0, 0, -77, 3, 2);
        x.item(0, 1, 1, 9, 2);
        x.item(0, 2, 1, 8, 1);
        long[][] due = {{0, -77, -1, -1}, {1, 1, 9, 2}, {2, -1, 8, 1}};
        for (int i = 0; i < 3; i++) {
            for (int what = 0; what < 4; what++) {
                int at = i;
                int w = what;
                checks.due("inside(0, " + at + ", " + w + ")", due[at][w], () -> x.inside(0, at, w));
            }
        }
        checks.dueThrow("inside(0, 3, 0)", NO_SUCH, () -> x.inside(0, 3, 0));
        checks.dueThrow("inside(0, 3, 4)", BAD, () -> x.inside(0, 3, 4));
        checks.dueThrow("inside(1, 0, 0)", BAD, () -> x.inside(1, 0, 0));
        for (int out : FAR_OUT) {
            checks.dueThrow("inside(0, " + out + ", 0)", NO_SUCH, () -> x.inside(0, out, 0));
            checks.dueThrow("inside(0, 0, " + out + ")", BAD, () -> x.inside(0, 0, out));
            checks.dueThrow("inside(" + out + ", 0, 0)", BAD, () -> x.inside(out, 0, 0));
        }
    }

    private static void countOfEverythingElse() {
        CodeShrinker x = new CodeShrinker();
        x.add(-1);
        for (int what : new int[] {-1, 5, 6, 7, 8, 9, 11, 18, Integer.MIN_VALUE, Integer.MAX_VALUE}) {
            checks.due("count(" + what + ")", -2, () -> x.count(what));
        }
    }
}

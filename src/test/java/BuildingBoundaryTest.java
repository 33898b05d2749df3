/**
 * The boundary cases of promises 1 to 5, 9, 10 and 12: one test for each sentence that names one.
 * The text at the beginning of each test says the promise and the sentence.
 */
public final class BuildingBoundaryTest {
    private static final int LEAST = Integer.MIN_VALUE;
    private static final int MOST = Integer.MAX_VALUE;

    private static final Checks checks = new Checks();

    public static void main(String[] args) {
        theWholeObject();
        newObjects();
        classes();
        methods();
        items();
        keeping();
        tellings();
        countings();
        checks.finish();
    }

    private static void theWholeObject() {
        fiveHundredAndTwelveCalls();
        fiveHundredAndTwelveCallsOnAFullObject();
    }

    private static void newObjects() {
        aNewObjectIsEmpty();
        aNewObjectHasAllItsRoom();
    }

    private static void classes() {
        atMostEightClasses();
        aParentIsAnEarlierClass();
        noParent();
        parentsOutOfRange();
        noRoomForClasses();
        badComesBeforeNoRoomForClasses();
        roomForClassesComesBack();
    }

    private static void methods() {
        atMostTwentyFourMethods();
        namesAndAritiesAtTheirEdges();
        namesAndAritiesOutOfRange();
        methodsOfNoClass();
        noTwoAlike();
        noTwoAlikeByTheNamesNow();
        noRoomOrAlike();
        badComesBeforeNoRoomForMethods();
        aNewMethodIsEmpty();
        roomForMethodsComesBack();
    }

    private static void items() {
        atMostFiveItems();
        fiveItemsOfEachMethod();
        sayAnyInt();
        callsAtTheirEdges();
        selfAtItsEdges();
        noSuchKind();
        whatAKindHasNoUseFor();
        itemsOfNoMethod();
        badComesBeforeNoRoomForItems();
    }

    private static void keeping() {
        keptOrNot();
        keepOfNoMethod();
    }

    private static void tellings() {
        toldAtItsEdges();
        toldOfNoMethod();
        insideAtItsEdges();
        whereTheKindHasNone();
        noSuchItem();
        badComesBeforeNoSuchItem();
    }

    private static void countings() {
        countAtItsEdges();
        countsAreOfNow();
        parentsCounted();
        goneInAll();
    }

    private static void fiveHundredAndTwelveCalls() {
        Script s = script("What it is: An object is used for at most 512 calls after it has been made");
        for (int round = 0; round < 128; round++) {
            s.row("add(-1) = 0");
            s.row("method(0, %d, %d) = 0", round % 26, round % 3);
            s.row("shrink() = 1");
            s.row("count(4) = %d", round + 1);
        }
        checks.compare("calls of the script", "512", "" + s.calls());
    }

    /** 8 CLASSES, 24 METHODS, 120 ITEMS, and the dearest calls for the rest. */
    private static void fiveHundredAndTwelveCallsOnAFullObject() {
        Script s = script("What it is: An object is used for at most 512 calls after it has been made");
        fullOfClasses(s);
        for (int m = 0; m < 24; m++) {
            s.row("method(%d, %d, 0) = %d", m % 8, m, m);
            for (int i = 0; i < 5; i++) {
                s.row("item(%d, 2, 0, %d, 0) = %d", m, (m + i) % 24, i + 1);
            }
        }
        s.row("keep(23, true)");
        for (int round = 0; round < 119; round++) {
            s.rows("rename() = 24", "count(3) = 1", "run(7, 23, 0) = ISE");
        }
        s.rows("count(1) = 24", "count(4) = 0");
        checks.compare("calls of the script", "512", "" + s.calls());
    }

    private static void aNewObjectIsEmpty() {
        script("Promise 1: No CLASSES.").rows(
                "count(0) = 0", "count(1) = 0", "count(2) = 0", "count(3) = 0", "count(4) = 0",
                "count(10) = -2", "add(0) = IAE", "method(0, 0, 0) = IAE", "item(0, 0, 0, 0, 0) = IAE",
                "keep(0, true) = IAE", "keep(0, false) = IAE", "run(0, 0, 0) = IAE", "told(0, 0) = IAE",
                "inside(0, 0, 0) = IAE", "trace(0, 0, 0) = IAE", "shrink() = 0", "rename() = 0",
                "count(0) = 0", "count(4) = 0");
    }

    /** Another object that is full takes nothing from a new one. */
    private static void aNewObjectHasAllItsRoom() {
        Script other = script("Promise 1: No CLASSES.");
        fullOfMethods(other);
        fullOfMethods(script("Promise 1: No CLASSES."));
        other.rows("add(-1) = ISE", "method(0, 25, 0) = ISE");
    }

    private static void atMostEightClasses() {
        String sentence = "Promise 2, Terms: CLASSES, at most 8, numbered from 0 in order";
        Script chain = script(sentence);
        fullOfClasses(chain);
        Script apart = script(sentence);
        for (int c = 0; c < 8; c++) {
            apart.row("add(-1) = %d", c);
        }
        for (int parent = -1; parent < 8; parent++) {
            chain.row("add(%d) = ISE", parent);
            apart.row("add(%d) = ISE", parent);
        }
        chain.rows("count(0) = 8", "count(17) = 6", "count(18) = -2");
        apart.rows("count(0) = 8", "count(17) = -1", "count(18) = -2");
    }

    private static void aParentIsAnEarlierClass() {
        Script s = script("Promise 2, Terms: each has a PARENT, an earlier CLASS, or none");
        for (int c = 0; c < 8; c++) {
            s.row("add(%d) = IAE", c);
            s.row("add(%d) = IAE", c + 1);
            s.row("add(%d) = %d", c / 2 - (c == 0 ? 1 : 0), c);
        }
        for (int c = 1; c < 8; c++) {
            s.row("count(%d) = %d", 10 + c, c / 2);
        }
    }

    private static void noParent() {
        script("Promise 2: A new CLASS with the PARENT (-1: none).").rows(
                "add(-1) = 0", "count(10) = -1", "add(0) = 1", "count(11) = 0", "add(-1) = 2", "count(12) = -1");
    }

    private static void parentsOutOfRange() {
        Script s = script("Promise 2, Terms: a number out of range, a CLASS or METHOD that isn't there");
        s.row("add(-1) = 0");
        for (int parent : new int[] {-2, -3, 1, 2, 7, 8, LEAST, MOST}) {
            s.row("add(%d) = IAE", parent);
        }
        s.rows("count(0) = 1", "add(0) = 1");
    }

    private static void noRoomForClasses() {
        Script s = script("Promise 2, Terms: No room, or there is one with both alike: IllegalStateException.");
        for (int c = 0; c < 8; c++) {
            s.row("add(%d) = %d", c == 4 ? -1 : c - 1, c);
        }
        s.rows("add(-1) = ISE", "add(4) = ISE", "add(7) = ISE", "count(14) = -1", "count(0) = 8");
    }

    private static void badComesBeforeNoRoomForClasses() {
        Script s = script("Promise 2, Terms: it comes first");
        fullOfClasses(s);
        for (int parent : new int[] {-2, 8, LEAST, MOST}) {
            s.row("add(%d) = IAE", parent);
        }
        s.row("add(7) = ISE");
    }

    private static void roomForClassesComesBack() {
        Script s = script("Promise 2, Terms: CLASSES, at most 8");
        fullOfClasses(s);
        s.rows("add(0) = ISE", "method(5, 0, 0) = 0", "keep(0, true)", "shrink() = 0", "count(0) = 6",
                "add(6) = IAE", "add(5) = 6", "add(6) = 7", "add(7) = ISE", "count(0) = 8");
    }

    private static void atMostTwentyFourMethods() {
        String sentence = "Promise 3, Terms: METHODS, at most 24, numbered from 0 in order";
        Script spread = script(sentence);
        fullOfClasses(spread);
        for (int m = 0; m < 24; m++) {
            spread.row("method(%d, %d, %d) = %d", m % 8, m / 8, m % 3, m);
        }
        for (int c = 0; c < 8; c++) {
            spread.row("method(%d, 25, 2) = ISE", c);
        }
        spread.rows("count(1) = 24", "told(23, 0) = 7", "told(24, 0) = IAE");
        Script one = script(sentence);
        fullOfMethods(one);
        one.rows("method(0, 24, 0) = ISE", "method(0, 0, 1) = ISE", "count(1) = 24");
    }

    private static void namesAndAritiesAtTheirEdges() {
        script("Promise 3, Terms: with a NAME 0 .. 25 and an ARITY 0 .. 2").rows(
                "add(-1) = 0", "method(0, 0, 0) = 0", "method(0, 0, 2) = 1", "method(0, 25, 0) = 2",
                "method(0, 25, 2) = 3", "told(0, 1) = 0", "told(0, 2) = 0", "told(1, 2) = 2", "told(2, 1) = 25",
                "told(3, 1) = 25", "told(3, 2) = 2", "told(3, 6) = 25");
    }

    private static void namesAndAritiesOutOfRange() {
        Script s = script("Promise 3, Terms: with a NAME 0 .. 25 and an ARITY 0 .. 2");
        s.row("add(-1) = 0");
        for (int name : new int[] {-1, 26, 27, LEAST, MOST}) {
            s.row("method(0, %d, 0) = IAE", name);
        }
        for (int arity : new int[] {-1, 3, LEAST, MOST}) {
            s.row("method(0, 0, %d) = IAE", arity);
        }
        s.row("count(1) = 0");
    }

    private static void methodsOfNoClass() {
        Script s = script("Promise 3, Terms: a number out of range, a CLASS or METHOD that isn't there");
        s.rows("add(-1) = 0", "add(0) = 1");
        for (int of : new int[] {-1, 2, 7, 8, LEAST, MOST}) {
            s.row("method(%d, 0, 0) = IAE", of);
        }
        s.rows("method(1, 0, 0) = 0", "method(0, 1, 0) = 1", "keep(1, true)", "shrink() = 1");
        s.row("method(1, 5, 0) = IAE");
    }

    private static void noTwoAlike() {
        script("Promise 3, Terms: no two of a CLASS have both alike").rows(
                "add(-1) = 0", "add(0) = 1", "add(1) = 2", "method(1, 7, 1) = 0",
                "method(1, 7, 1) = ISE", "method(1, 7, 0) = 1", "method(1, 7, 2) = 2", "method(1, 8, 1) = 3",
                "method(0, 7, 1) = 4", "method(2, 7, 1) = 5", "method(0, 7, 1) = ISE", "method(2, 7, 1) = ISE",
                "count(1) = 6");
    }

    /** RENAMING and SHRINKING make NAMES free and take others. */
    private static void noTwoAlikeByTheNamesNow() {
        script("Promise 3, Terms: no two of a CLASS have both alike").rows(
                "add(-1) = 0", "method(0, 9, 0) = 0", "method(0, 0, 0) = 1",
                "rename() = 2", "told(0, 1) = 0", "told(1, 1) = 1", "method(0, 1, 0) = ISE",
                "method(0, 9, 0) = 2", "keep(2, true)", "shrink() = 2", "method(0, 9, 0) = ISE",
                "method(0, 0, 0) = 1", "method(0, 1, 0) = 2");
    }

    /** Alike with room, no room without one alike, and both at once. */
    private static void noRoomOrAlike() {
        Script s = script("Promise 3, Terms: No room, or there is one with both alike: IllegalStateException.");
        s.rows("add(-1) = 0", "method(0, 0, 0) = 0", "method(0, 0, 0) = ISE");
        for (int m = 1; m < 24; m++) {
            s.row("method(0, %d, %d) = %d", m, m % 3, m);
        }
        s.rows("method(0, 25, 0) = ISE", "method(0, 0, 0) = ISE", "method(0, 23, 2) = ISE", "count(1) = 24");
    }

    private static void badComesBeforeNoRoomForMethods() {
        Script s = script("Promise 3, Terms: it comes first");
        fullOfMethods(s);
        s.rows("method(0, 0, 0) = ISE", "method(-1, 0, 0) = IAE", "method(8, 0, 0) = IAE",
                "method(0, -1, 0) = IAE", "method(0, 26, 0) = IAE", "method(0, 0, -1) = IAE",
                "method(0, 0, 3) = IAE", "method(0, 25, 0) = ISE");
    }

    private static void aNewMethodIsEmpty() {
        script("Promise 3: A new METHOD of the CLASS, not KEPT, without ITEMS.").rows(
                "add(-1) = 0", "method(0, 4, 1) = 0", "told(0, 3) = 0", "told(0, 4) = 0", "inside(0, 0, 0) = NSEE",
                "run(0, 4, 1) = 0", "count(2) = 0",
                // One that was KEPT and had ITEMS is gone, and its number is given again.
                "item(0, 0, 5, 0, 0) = 1", "keep(0, true)", "keep(0, false)", "shrink() = 1", "add(-1) = 0",
                "method(0, 4, 1) = 0", "told(0, 3) = 0", "told(0, 4) = 0", "inside(0, 0, 0) = NSEE");
    }

    private static void roomForMethodsComesBack() {
        Script s = script("Promise 3, Terms: METHODS, at most 24");
        fullOfMethods(s);
        s.rows("keep(3, true)", "keep(23, true)", "method(0, 24, 0) = ISE", "shrink() = 22");
        for (int m = 2; m < 24; m++) {
            s.row("method(0, %d, 1) = %d", m, m);
        }
        s.rows("method(0, 24, 1) = ISE", "count(1) = 24", "count(4) = 22");
    }

    private static void atMostFiveItems() {
        for (int kind = 0; kind < 3; kind++) {
            Script s = script("Promise 4, Terms: up to 5 ITEMS");
            s.rows("add(-1) = 0", "method(0, 0, 0) = 0");
            for (int i = 0; i < 5; i++) {
                s.row("item(0, %d, 0, %d, 0) = %d", kind, i, i + 1);
            }
            for (int sixth = 0; sixth < 3; sixth++) {
                s.row("item(0, %d, 0, 0, 0) = ISE", sixth);
            }
            s.rows("told(0, 3) = 5", "inside(0, 4, 0) = " + kind, "inside(0, 5, 0) = NSEE");
        }
    }

    private static void fiveItemsOfEachMethod() {
        Script s = script("Promise 4: It has 5: no room. Answers how many it has.");
        fullOfMethods(s);
        for (int i = 0; i < 5; i++) {
            for (int m = 0; m < 24; m++) {
                s.row("item(%d, 0, %d, 0, 0) = %d", m, 100 * m + i, i + 1);
            }
        }
        for (int m = 0; m < 24; m++) {
            s.row("item(%d, 0, 1, 0, 0) = ISE", m);
            s.row("told(%d, 3) = 5", m);
            s.row("inside(%d, 4, 1) = %d", m, 100 * m + 4);
        }
    }

    private static void sayAnyInt() {
        Script s = script("Promise 4, Terms: SAY v (an int)");
        s.row("add(-1) = 0");
        int[] values = {LEAST, MOST, 0, -1, -2, 26};
        for (int m = 0; m < values.length; m++) {
            s.row("method(0, %d, 0) = %d", m, m);
            s.row("item(%d, 0, %d, 0, 0) = 1", m, values[m]);
            s.row("inside(%d, 0, 1) = %d", m, values[m]);
            s.row("run(0, %d, 0) = %d", m, values[m]);
        }
    }

    private static void callsAtTheirEdges() {
        Script s = script("Promise 4: CALL (a, b, c) (kind 1)");
        s.rows("add(-1) = 0", "add(0) = 1", "method(0, 0, 0) = 0");
        for (int of : new int[] {-1, 2, 8, LEAST, MOST}) {
            s.row("item(0, 1, %d, 0, 0) = IAE", of);
        }
        for (int name : new int[] {-1, 26, LEAST, MOST}) {
            s.row("item(0, 1, 0, %d, 0) = IAE", name);
        }
        for (int arity : new int[] {-1, 3, LEAST, MOST}) {
            s.row("item(0, 1, 0, 0, %d) = IAE", arity);
        }
        s.rows("item(0, 1, 0, 0, 0) = 1", "item(0, 1, 1, 25, 2) = 2", "inside(0, 1, 1) = 1",
                "inside(0, 1, 2) = 25", "inside(0, 1, 3) = 2");
    }

    private static void selfAtItsEdges() {
        Script s = script("Promise 4: SELF (b, c) (kind 2)");
        s.rows("add(-1) = 0", "method(0, 0, 0) = 0");
        for (int name : new int[] {-1, 26, LEAST, MOST}) {
            s.row("item(0, 2, 0, %d, 0) = IAE", name);
        }
        for (int arity : new int[] {-1, 3, LEAST, MOST}) {
            s.row("item(0, 2, 0, 0, %d) = IAE", arity);
        }
        s.rows("item(0, 2, 0, 0, 0) = 1", "item(0, 2, 0, 25, 2) = 2", "inside(0, 1, 2) = 25",
                "inside(0, 1, 3) = 2");
    }

    private static void noSuchKind() {
        Script s = script("Promise 4, Terms: a number out of range");
        s.rows("add(-1) = 0", "method(0, 0, 0) = 0");
        for (int kind : new int[] {-1, 3, 4, LEAST, MOST}) {
            s.row("item(0, %d, 0, 0, 0) = IAE", kind);
        }
        s.row("told(0, 3) = 0");
    }

    private static void whatAKindHasNoUseFor() {
        Script s = script("Promise 4: numbers that the kind has no use for don't matter");
        s.rows("add(-1) = 0", "method(0, 0, 0) = 0", "method(0, 1, 0) = 1");
        int items = 0;
        for (int any : new int[] {-1, 26, 3, LEAST, MOST}) {
            items++;
            s.row("item(0, 0, 7, %d, %d) = %d", any, any, items);
            s.row("item(1, 2, %d, 25, 2) = %d", any, items);
        }
        s.rows("inside(0, 4, 1) = 7", "inside(0, 4, 2) = -1", "inside(0, 4, 3) = -1",
                "inside(1, 4, 1) = -1", "inside(1, 4, 2) = 25", "inside(1, 4, 3) = 2");
    }

    private static void itemsOfNoMethod() {
        Script s = script("Promise 4, Terms: a CLASS or METHOD that isn't there");
        s.rows("add(-1) = 0", "method(0, 0, 0) = 0");
        for (int kind = 0; kind < 3; kind++) {
            for (int m : new int[] {-1, 1, 23, 24, LEAST, MOST}) {
                s.row("item(%d, %d, 0, 0, 0) = IAE", m, kind);
            }
        }
        s.row("told(0, 3) = 0");
    }

    private static void badComesBeforeNoRoomForItems() {
        Script s = script("Promise 4, Terms: it comes first");
        s.rows("add(-1) = 0", "method(0, 0, 0) = 0");
        for (int i = 0; i < 5; i++) {
            s.row("item(0, 0, 0, 0, 0) = %d", i + 1);
        }
        s.rows("item(0, 0, 0, 0, 0) = ISE", "item(0, 0, 0, 26, 3) = ISE", "item(0, 2, 1, 0, 0) = ISE",
                "item(1, 0, 0, 0, 0) = IAE", "item(0, -1, 0, 0, 0) = IAE", "item(0, 3, 0, 0, 0) = IAE",
                "item(0, 1, 1, 0, 0) = IAE", "item(0, 1, -1, 0, 0) = IAE", "item(0, 1, 0, 26, 0) = IAE",
                "item(0, 1, 0, 0, 3) = IAE", "item(0, 2, 0, -1, 0) = IAE", "item(0, 2, 0, 0, -1) = IAE");
    }

    private static void keptOrNot() {
        script("Promise 5: METHOD m is KEPT, or not.").rows(
                "add(-1) = 0", "method(0, 0, 0) = 0", "keep(0, false)", "told(0, 4) = 0", "keep(0, true)",
                "keep(0, true)", "told(0, 4) = 1", "count(2) = 1", "keep(0, false)", "told(0, 4) = 0",
                "count(2) = 0", "shrink() = 1");
    }

    private static void keepOfNoMethod() {
        Script s = script("Promise 5, Terms: a CLASS or METHOD that isn't there");
        s.rows("add(-1) = 0", "method(0, 0, 0) = 0");
        for (int m : new int[] {-1, 1, 23, 24, LEAST, MOST}) {
            s.row("keep(%d, true) = IAE", m);
            s.row("keep(%d, false) = IAE", m);
        }
        s.rows("told(0, 4) = 0", "shrink() = 1", "keep(0, true) = IAE");
    }

    private static void toldAtItsEdges() {
        Script s = script("Promise 9: Of METHOD m: its CLASS (what 0), NAME (1), ARITY (2), ITEMS (3), "
                + "1 if it's KEPT (4); of its beginning its CLASS (5), NAME (6), number (7).");
        s.rows("add(-1) = 0", "add(-1) = 1", "method(0, 1, 0) = 0", "method(1, 20, 2) = 1",
                "item(1, 0, 0, 0, 0) = 1", "keep(1, true)", "shrink() = 1", "keep(0, false)", "rename() = 1",
                "told(0, 0) = 0", "told(0, 1) = 0", "told(0, 2) = 2", "told(0, 3) = 1", "told(0, 4) = 0",
                "told(0, 5) = 1", "told(0, 6) = 20", "told(0, 7) = 1");
        for (int what : new int[] {-1, 8, 9, LEAST, MOST}) {
            s.row("told(0, %d) = IAE", what);
        }
    }

    private static void toldOfNoMethod() {
        Script s = script("Promise 9, Terms: a CLASS or METHOD that isn't there");
        s.rows("add(-1) = 0", "method(0, 1, 0) = 0");
        for (int m : new int[] {-1, 1, 23, 24, LEAST, MOST}) {
            s.row("told(%d, 0) = IAE", m);
            s.row("told(%d, 7) = IAE", m);
        }
        s.rows("shrink() = 1", "told(0, 0) = IAE");
    }

    private static void insideAtItsEdges() {
        Script s = script("Promise 10: its kind (what 0) and v, or CLASS, NAME and ARITY (1 .. 3");
        s.rows("add(-1) = 0", "add(-1) = 1", "method(0, 0, 0) = 0", "item(0, 1, 1, 9, 2) = 1",
                "inside(0, 0, 0) = 1", "inside(0, 0, 1) = 1", "inside(0, 0, 2) = 9", "inside(0, 0, 3) = 2");
        for (int what : new int[] {-1, 4, 5, LEAST, MOST}) {
            s.row("inside(0, 0, %d) = IAE", what);
        }
    }

    /** A SAY's v may itself be -1, or a number that a CLASS has. */
    private static void whereTheKindHasNone() {
        script("Promise 10: -1 where the kind has none; v: 1").rows(
                "add(-1) = 0", "method(0, 0, 0) = 0", "item(0, 0, 5, 6, 1) = 1", "item(0, 0, -1, 6, 1) = 2",
                "item(0, 2, 0, 6, 1) = 3", "inside(0, 0, 0) = 0", "inside(0, 0, 1) = 5", "inside(0, 0, 2) = -1",
                "inside(0, 0, 3) = -1", "inside(0, 1, 1) = -1", "inside(0, 2, 0) = 2", "inside(0, 2, 1) = -1",
                "inside(0, 2, 2) = 6", "inside(0, 2, 3) = 1");
    }

    private static void noSuchItem() {
        Script s = script("Promise 10: No such ITEM: NoSuchElementException.");
        s.rows("add(-1) = 0", "method(0, 0, 0) = 0", "inside(0, 0, 0) = NSEE");
        for (int i = 0; i < 5; i++) {
            s.row("item(0, 0, %d, 0, 0) = %d", 40 + i, i + 1);
            s.row("inside(0, %d, 1) = %d", i, 40 + i);
            s.row("inside(0, %d, 1) = NSEE", i + 1);
        }
        for (int i : new int[] {-1, 5, 6, LEAST, MOST}) {
            for (int what = 0; what < 4; what++) {
                s.row("inside(0, %d, %d) = NSEE", i, what);
            }
        }
    }

    private static void badComesBeforeNoSuchItem() {
        Script s = script("Promise 10, Terms: it comes first");
        s.rows("add(-1) = 0", "method(0, 0, 0) = 0", "inside(0, 0, 0) = NSEE", "inside(0, 0, 4) = IAE",
                "inside(0, -1, -1) = IAE", "inside(0, 5, 4) = IAE");
        for (int m : new int[] {-1, 1, 23, 24, LEAST, MOST}) {
            s.row("inside(%d, 0, 0) = IAE", m);
            s.row("inside(%d, -1, 0) = IAE", m);
        }
    }

    private static void countAtItsEdges() {
        Script s = script("Promise 12: else -2");
        s.rows("add(-1) = 0", "method(0, 0, 0) = 0", "keep(0, true)", "count(0) = 1", "count(1) = 1",
                "count(2) = 1", "count(3) = 1", "count(4) = 0", "count(10) = -1");
        for (int what : new int[] {-1, -2, -10, 5, 6, 7, 8, 9, 11, 17, 18, 19, LEAST, LEAST + 10, MOST}) {
            s.row("count(%d) = -2", what);
        }
    }

    /** Each is asked right behind what changes it, in the order that changes it most. */
    private static void countsAreOfNow() {
        script("Promise 12: CLASSES (0), METHODS (1), LIVE METHODS (2) and MADE CLASSES (3) now").rows(
                "add(-1) = 0", "add(0) = 1", "count(0) = 2", "method(0, 0, 0) = 0", "method(1, 1, 0) = 1",
                "count(1) = 2", "count(2) = 0", "count(3) = 0", "keep(0, true)", "count(2) = 1", "count(3) = 1",
                "item(0, 1, 1, 1, 0) = 1", "count(2) = 2", "count(3) = 2", "method(1, 2, 0) = 2", "count(2) = 2",
                "keep(0, false)", "keep(2, true)", "count(2) = 1", "count(3) = 1", "shrink() = 2", "count(0) = 2",
                "count(1) = 1", "count(2) = 1", "count(3) = 1", "keep(0, false)", "count(2) = 0", "count(3) = 0",
                "count(1) = 1", "count(0) = 2");
    }

    private static void parentsCounted() {
        Script s = script("Promise 12: the CLASS's PARENT for CLASS what - 10, -1 for none (10 on)");
        for (int c = 0; c < 8; c++) {
            s.row("count(%d) = -2", 10 + c);
            s.row("add(%d) = %d", c % 4 == 0 ? -1 : c - 1, c);
            s.row("count(%d) = %d", 10 + c, c % 4 == 0 ? -1 : c - 1);
        }
        s.rows("count(18) = -2", "method(6, 0, 0) = 0", "keep(0, true)", "shrink() = 0", "count(10) = -1",
                "count(11) = 0", "count(12) = 1", "count(13) = -2");
    }

    private static void goneInAll() {
        script("Promise 12: METHODS gone in all (4)").rows(
                "count(4) = 0", "shrink() = 0", "count(4) = 0", "add(-1) = 0", "shrink() = 0", "count(4) = 0",
                "add(-1) = 0", "method(0, 0, 0) = 0", "method(0, 1, 0) = 1", "method(0, 2, 0) = 2",
                "keep(1, true)", "count(4) = 0", "shrink() = 2", "count(4) = 2", "shrink() = 0", "count(4) = 2",
                "keep(0, false)", "shrink() = 1", "count(4) = 3", "rename() = 0", "count(4) = 3");
    }

    private static Script script(String sentence) {
        return new Script(checks, sentence);
    }

    /** Eight CLASSES, each below the one before. */
    private static void fullOfClasses(Script s) {
        for (int c = 0; c < 8; c++) {
            s.row("add(%d) = %d", c - 1, c);
        }
    }

    /** Eight CLASSES and 24 METHODS, all of CLASS 0 and of ARITY 0. */
    private static void fullOfMethods(Script s) {
        fullOfClasses(s);
        for (int m = 0; m < 24; m++) {
            s.row("method(0, %d, 0) = %d", m, m);
        }
    }
}

/**
 * The boundary cases of promise 6: one test for each sentence that names one. The text at the
 * beginning of each test says the promise and the sentence.
 */
public final class RunningBoundaryTest {
    private static final int LEAST = Integer.MIN_VALUE;
    private static final int MOST = Integer.MAX_VALUE;

    private static final Checks checks = new Checks();

    public static void main(String[] args) {
        findingGoesAllTheWayUp();
        findingTakesTheNearest();
        findingWantsBothAlike();
        noneAtTheBeginning();
        noneInside();
        zeroAtFirst();
        wrapsUpwards();
        wrapsDownwards();
        wrapsManyTimes();
        callIsForItsOwnClass();
        selfIsForTheClassAtWork();
        sixteenWithinOneAnother();
        sixteenAcrossClasses();
        depthIsSeenBeforeFinding();
        manyOneBehindAnother();
        threeHundredItems();
        methodsWithoutItemsCostNone();
        theItemThatIsTooMuchIsNotDone();
        whatIsFoundFirstIsThrown();
        numbersOutOfRange();
        badComesFirst();
        runsBehindARefusedRun();
        checks.finish();
    }

    private static void findingGoesAllTheWayUp() {
        Script s = script("Promise 6, Terms: ANCESTORS: its PARENT, that one's PARENT and so on.");
        chainOfClasses(s);
        s.rows("method(0, 3, 1) = 0", "item(0, 0, 44, 0, 0) = 1");
        for (int c = 0; c < 8; c++) {
            s.row("run(%d, 3, 1) = 44", c);
        }
    }

    private static void findingTakesTheNearest() {
        Script s = script("Promise 6, Terms: its METHOD with these, else that of the nearest of its ANCESTORS "
                + "that has one");
        chainOfClasses(s);
        s.rows("method(0, 3, 1) = 0", "item(0, 0, 40, 0, 0) = 1", "method(5, 3, 1) = 1", "item(1, 0, 45, 0, 0) = 1",
                "method(2, 3, 1) = 2", "item(2, 0, 42, 0, 0) = 1");
        int[] due = {40, 40, 42, 42, 42, 45, 45, 45};
        for (int c = 0; c < 8; c++) {
            s.row("run(%d, 3, 1) = %d", c, due[c]);
        }
    }

    private static void findingWantsBothAlike() {
        script("Promise 6, Terms: else none.").rows(
                "add(-1) = 0", "add(0) = 1", "add(0) = 2", "method(0, 3, 1) = 0", "item(0, 0, 40, 0, 0) = 1",
                "method(1, 3, 2) = 1", "method(1, 2, 1) = 2", "run(1, 3, 1) = 40", "run(1, 3, 0) = NSEE",
                "run(1, 4, 1) = NSEE", "run(0, 3, 2) = NSEE", "run(2, 3, 2) = NSEE");
    }

    private static void noneAtTheBeginning() {
        script("Promise 6, Terms: none: NoSuchElementException.").rows(
                "add(-1) = 0", "run(0, 0, 0) = NSEE", "run(0, 25, 2) = NSEE", "method(0, 0, 0) = 0",
                "run(0, 0, 0) = 0", "run(0, 0, 1) = NSEE", "run(0, 1, 0) = NSEE", "shrink() = 1",
                "add(-1) = 0", "run(0, 0, 0) = NSEE");
    }

    private static void noneInside() {
        script("Promise 6, Terms: none: NoSuchElementException.").rows(
                "add(-1) = 0", "add(-1) = 1", "method(0, 0, 0) = 0", "item(0, 0, 3, 0, 0) = 1",
                "item(0, 1, 1, 0, 0) = 2", "run(0, 0, 0) = NSEE", "method(0, 1, 0) = 1", "item(1, 2, 0, 2, 0) = 1",
                "run(0, 1, 0) = NSEE", "method(1, 0, 0) = 2", "run(0, 0, 0) = 3", "method(0, 2, 0) = 3",
                "run(0, 1, 0) = 0");
    }

    private static void zeroAtFirst() {
        script("Promise 6, Terms: the OUTCOME, 0 at first").rows(
                "add(-1) = 0", "method(0, 0, 0) = 0", "run(0, 0, 0) = 0", "item(0, 0, 0, 0, 0) = 1",
                "run(0, 0, 0) = 0", "item(0, 0, 2, 0, 0) = 2", "run(0, 0, 0) = 2", "run(0, 0, 0) = 2",
                "method(0, 1, 0) = 1", "item(1, 1, 0, 0, 0) = 1", "item(1, 1, 0, 0, 0) = 2",
                // The second CALL goes on from 2: 31 * (31 * 2 + 0) + 2.
                "run(0, 1, 0) = 1924", "run(0, 0, 0) = 2");
    }

    /** 31 * 69273666 is 2147483646, one below the greatest int. */
    private static void wrapsUpwards() {
        script("Promise 6, Terms: 31 times itself plus v (wrapping)").rows(
                "add(-1) = 0",
                "method(0, 0, 0) = 0", "item(0, 0, 69273666, 0, 0) = 1", "item(0, 0, 1, 0, 0) = 2",
                "run(0, 0, 0) = 2147483647",
                "method(0, 1, 0) = 1", "item(1, 0, 69273666, 0, 0) = 1", "item(1, 0, 2, 0, 0) = 2",
                "run(0, 1, 0) = -2147483648",
                "method(0, 2, 0) = 2", "item(2, 0, 69273667, 0, 0) = 1", "item(2, 0, 0, 0, 0) = 2",
                "run(0, 2, 0) = -2147483619");
    }

    private static void wrapsDownwards() {
        script("Promise 6, Terms: 31 times itself plus v (wrapping)").rows(
                "add(-1) = 0",
                "method(0, 0, 0) = 0", "item(0, 0, -69273666, 0, 0) = 1", "item(0, 0, -2, 0, 0) = 2",
                "run(0, 0, 0) = -2147483648",
                "method(0, 1, 0) = 1", "item(1, 0, -69273666, 0, 0) = 1", "item(1, 0, -3, 0, 0) = 2",
                "run(0, 1, 0) = 2147483647",
                "method(0, 2, 0) = 2", "item(2, 0, -69273667, 0, 0) = 1", "item(2, 0, 0, 0, 0) = 2",
                "run(0, 2, 0) = 2147483619");
    }

    /** MOST is -1 and LEAST 0 in all bits but the highest: 32 times MOST is -32, 32 times LEAST 0. */
    private static void wrapsManyTimes() {
        Script s = script("Promise 6, Terms: 31 times itself plus v (wrapping)");
        s.rows("add(-1) = 0", "method(0, 0, 0) = 0", "method(0, 1, 0) = 1");
        for (int i = 0; i < 2; i++) {
            s.row("item(0, 0, %d, 0, 0) = %d", MOST, i + 1);
            s.row("item(1, 0, %d, 0, 0) = %d", LEAST, i + 1);
        }
        s.rows("run(0, 0, 0) = -32", "run(0, 1, 0) = 0", "item(1, 0, " + LEAST + ", 0, 0) = 3",
                "run(0, 1, 0) = " + LEAST);
    }

    /** Behind a CALL the CLASS that was at work before it is at work again. */
    private static void callIsForItsOwnClass() {
        script("Promise 6, Terms: CALL: RUNNING that.").rows(
                "add(-1) = 0", "add(0) = 1", "add(0) = 2", "method(0, 0, 0) = 0", "item(0, 1, 2, 1, 0) = 1",
                "item(0, 2, 0, 2, 0) = 2", "method(0, 1, 0) = 1", "item(1, 2, 0, 2, 0) = 1", "method(1, 2, 0) = 2",
                "item(2, 0, 5, 0, 0) = 1", "method(2, 2, 0) = 3", "item(3, 0, 7, 0, 0) = 1",
                "run(1, 0, 0) = 222", "run(2, 0, 0) = 224", "run(0, 0, 0) = NSEE");
    }

    private static void selfIsForTheClassAtWork() {
        script("Promise 6, Terms: SELF: RUNNING it for the CLASS that is at work (not that of the METHOD).").rows(
                "add(-1) = 0", "add(0) = 1", "add(1) = 2", "method(0, 0, 0) = 0", "item(0, 2, 0, 1, 0) = 1",
                "method(1, 1, 0) = 1", "item(1, 2, 0, 2, 0) = 1", "method(2, 2, 0) = 2", "item(2, 0, 8, 0, 0) = 1",
                "run(2, 0, 0) = 8", "run(1, 0, 0) = NSEE", "run(0, 0, 0) = NSEE",
                "method(0, 2, 0) = 3", "item(3, 0, 9, 0, 0) = 1", "run(2, 0, 0) = 8", "run(1, 0, 0) = 9",
                "run(0, 0, 0) = NSEE");
    }

    /** NAME n goes on to NAME n + 1 and NAME 20 says 6: from NAME 5 there are 16 within one another. */
    private static void sixteenWithinOneAnother() {
        for (int kind = 1; kind <= 2; kind++) {
            Script s = script("Promise 6, Terms: Above 16 RUNNING within one another");
            s.row("add(-1) = 0");
            for (int n = 0; n < 20; n++) {
                s.row("method(0, %d, 0) = %d", n, n);
                s.row("item(%d, %d, 0, %d, 0) = 1", n, kind, n + 1);
            }
            s.rows("method(0, 20, 0) = 20", "item(20, 0, 6, 0, 0) = 1");
            for (int n = 0; n <= 20; n++) {
                s.row(n < 5 ? "run(0, %d, 0) = ISE" : "run(0, %d, 0) = 6", n);
            }
            s.rows("method(0, 21, 0) = 21", "item(21, " + kind + ", 0, 21, 0) = 1", "run(0, 21, 0) = ISE");
        }
    }

    /** Each CLASS CALLS the next one's NAME 0, which does SELF NAME 1: two for each CLASS. */
    private static void sixteenAcrossClasses() {
        Script s = script("Promise 6, Terms: Above 16 RUNNING within one another");
        for (int c = 0; c < 8; c++) {
            s.row("add(-1) = %d", c);
            s.row("method(%d, 0, 0) = %d", c, 2 * c);
            s.row("item(%d, 2, 0, 1, 0) = 1", 2 * c);
            s.row("method(%d, 1, 0) = %d", c, 2 * c + 1);
        }
        for (int c = 0; c < 7; c++) {
            s.row("item(%d, 1, %d, 0, 0) = 1", 2 * c + 1, c + 1);
        }
        s.rows("item(15, 0, 6, 0, 0) = 1", "run(0, 0, 0) = 6", "method(0, 2, 0) = 16", "item(16, 2, 0, 0, 0) = 1",
                "run(0, 2, 0) = ISE", "run(0, 0, 0) = 6");
    }

    private static void depthIsSeenBeforeFinding() {
        Script s = script("Promise 6, Terms: (seen before FINDING)");
        s.row("add(-1) = 0");
        for (int n = 0; n < 16; n++) {
            s.row("method(0, %d, 0) = %d", n, n);
            s.row("item(%d, 1, 0, %d, 0) = 1", n, n + 1);
        }
        s.rows("run(0, 0, 0) = ISE", "run(0, 1, 0) = NSEE", "method(0, 16, 0) = 16", "run(0, 0, 0) = ISE",
                "run(0, 1, 0) = 0");
    }

    private static void manyOneBehindAnother() {
        Script s = script("Promise 6, Terms: RUNNING within one another");
        s.rows("add(-1) = 0", "method(0, 0, 0) = 0", "method(0, 1, 0) = 1", "method(0, 2, 0) = 2");
        for (int i = 1; i <= 5; i++) {
            s.row("item(0, 1, 0, 1, 0) = %d", i);
            s.row("item(1, 2, 0, 2, 0) = %d", i);
        }
        s.row("run(0, 0, 0) = 0");
    }

    private static void threeHundredItems() {
        Script s = script("Promise 6, Terms: or 300 ITEMS in all: IllegalStateException.");
        twoHundredAndNinetyNineItems(s);
        s.rows("run(0, 4, 0) = " + ones(240), "method(0, 5, 0) = 5", "item(5, 1, 0, 4, 0) = 1",
                "run(0, 5, 0) = " + ones(240), "item(5, 0, 1, 0, 0) = 2", "run(0, 5, 0) = ISE",
                "run(0, 4, 0) = " + ones(240), "item(4, 0, 1, 0, 0) = 5", "run(0, 4, 0) = " + ones(241),
                "run(0, 5, 0) = ISE");
    }

    private static void methodsWithoutItemsCostNone() {
        Script s = script("Promise 6, Terms: or 300 ITEMS in all: IllegalStateException.");
        twoHundredAndNinetyNineItems(s);
        s.rows("method(0, 5, 0) = 5", "item(4, 2, 0, 5, 0) = 5", "run(0, 4, 0) = " + ones(240),
                "item(5, 0, 1, 0, 0) = 1", "run(0, 4, 0) = ISE");
    }

    private static void theItemThatIsTooMuchIsNotDone() {
        Script s = script("Promise 6, Terms: or 300 ITEMS in all: IllegalStateException.");
        twoHundredAndNinetyNineItems(s);
        s.rows("method(0, 5, 0) = 5", "item(5, 1, 0, 4, 0) = 1", "item(5, 1, 0, 25, 0) = 2", "run(0, 5, 0) = ISE",
                "item(4, 2, 0, 25, 0) = 5", "run(0, 4, 0) = NSEE");
    }

    /** NAME 0 finds none and then goes too deep, NAME 1 the other way round. */
    private static void whatIsFoundFirstIsThrown() {
        script("Promise 6, Terms: does its ITEMS in order").rows(
                "add(-1) = 0", "method(0, 0, 0) = 0", "item(0, 1, 0, 9, 0) = 1", "item(0, 1, 0, 0, 0) = 2",
                "method(0, 1, 0) = 1", "item(1, 1, 0, 1, 0) = 1", "item(1, 1, 0, 9, 0) = 2",
                "run(0, 0, 0) = NSEE", "run(0, 1, 0) = ISE");
    }

    private static void numbersOutOfRange() {
        Script s = script("Promise 6, Terms: a number out of range, a CLASS or METHOD that isn't there");
        s.rows("add(-1) = 0", "add(-1) = 1", "method(0, 25, 2) = 0", "method(1, 0, 0) = 1", "run(0, 25, 2) = 0",
                "run(1, 0, 0) = 0");
        for (int of : new int[] {-1, 2, 8, LEAST, MOST}) {
            s.row("run(%d, 0, 0) = IAE", of);
        }
        for (int name : new int[] {-1, 26, 27, LEAST, MOST}) {
            s.row("run(0, %d, 2) = IAE", name);
        }
        for (int arity : new int[] {-1, 3, LEAST, MOST}) {
            s.row("run(0, 25, %d) = IAE", arity);
        }
        s.rows("keep(0, true)", "shrink() = 1", "run(1, 0, 0) = IAE");
    }

    private static void badComesFirst() {
        script("Promise 6, Terms: it comes first").rows(
                "add(-1) = 0", "run(0, 0, 0) = NSEE", "run(1, 0, 0) = IAE", "run(0, 26, 0) = IAE",
                "run(0, 0, 3) = IAE", "run(0, -1, -1) = IAE");
    }

    private static void runsBehindARefusedRun() {
        script("Promise 6, Terms: Programs can be run all the time").rows(
                "add(-1) = 0", "method(0, 0, 0) = 0", "item(0, 0, 5, 0, 0) = 1", "method(0, 1, 0) = 1",
                "item(1, 0, 7, 0, 0) = 1", "item(1, 2, 0, 1, 0) = 2", "method(0, 2, 0) = 2",
                "item(2, 0, 7, 0, 0) = 1", "item(2, 2, 0, 9, 0) = 2", "run(0, 1, 0) = ISE", "run(0, 0, 0) = 5",
                "run(0, 2, 0) = NSEE", "run(0, 0, 0) = 5", "run(0, 26, 0) = IAE", "run(0, 0, 0) = 5");
    }

    private static Script script(String sentence) {
        return new Script(checks, sentence);
    }

    private static void chainOfClasses(Script s) {
        for (int c = 0; c < 8; c++) {
            s.row("add(%d) = %d", c - 1, c);
        }
    }

    /**
     * RUNNING NAME n does: 0: 5 ITEMS, all SAY 1; 1: 30, 25 of them SAY; 2: 155, 125 of them SAY;
     * 3: 155 + 4 * 30 + 5 = 280, 225 of them SAY; 4: 280 + 3 * 5 + 4 = 299, 240 of them SAY.
     */
    private static void twoHundredAndNinetyNineItems(Script s) {
        s.row("add(-1) = 0");
        for (int n = 0; n < 5; n++) {
            s.row("method(0, %d, 0) = %d", n, n);
        }
        for (int i = 0; i < 5; i++) {
            s.row("item(0, 0, 1, 0, 0) = %d", i + 1);
            s.row("item(1, 1, 0, 0, 0) = %d", i + 1);
            s.row("item(2, 2, 0, 1, 0) = %d", i + 1);
            s.row("item(3, 1, 0, %d, 0) = %d", i == 0 ? 2 : 1, i + 1);
        }
        for (int i = 0; i < 4; i++) {
            s.row("item(4, 2, 0, %d, 0) = %d", i == 0 ? 3 : 0, i + 1);
        }
    }

    /** The OUTCOME of so many SAY 1. */
    private static int ones(int sayings) {
        int outcome = 0;
        for (int i = 0; i < sayings; i++) {
            outcome = 31 * outcome + 1;
        }
        return outcome;
    }
}

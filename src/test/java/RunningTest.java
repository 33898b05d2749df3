/** Promise 6: run. */
public final class RunningTest {
    private static final Class<IllegalArgumentException> BAD = IllegalArgumentException.class;
    private static final Class<IllegalStateException> TOO_MUCH = IllegalStateException.class;
    private static final Class<java.util.NoSuchElementException> NO_SUCH = java.util.NoSuchElementException.class;

    private static final Checks checks = new Checks();

    public static void main(String[] args) {
        sayings();
        findingGoesUp();
        selfIsForTheClassAtWork();
        callChangesTheClassAtWork();
        findingNoneInside();
        sixteenWithinOneAnother();
        depthIsSeenBeforeFinding();
        depthIsNotTheNumberOfCalls();
        threeHundredItems();
        itemsAreCountedBeforeTheyAreDone();
        badNumbers();
        runChangesNothing();
        checks.finish();
    }

    private static void sayings() {
        CodeShrinker x = new CodeShrinker();
        x.add(-1);
        x.method(0, 0, 0);
        checks.due("no ITEMS", 0, () -> x.run(0, 0, 0));
        x.item(0, 0, 3, 0, 0);
        checks.due("SAY 3", 3, () -> x.run(0, 0, 0));
        x.item(0, 0, -4, 0, 0);
        checks.due("SAY 3, -4", 3 * 31 - 4, () -> x.run(0, 0, 0));
        x.item(0, 0, Integer.MAX_VALUE, 0, 0);
        checks.due("wrapping", 89 * 31 + Integer.MAX_VALUE, () -> x.run(0, 0, 0));
        checks.due("from 0 again", 89 * 31 + Integer.MAX_VALUE, () -> x.run(0, 0, 0));
        checks.dueThrow("other NAME", NO_SUCH, () -> x.run(0, 1, 0));
        checks.dueThrow("other ARITY", NO_SUCH, () -> x.run(0, 0, 1));
    }

    /** Class 0, 1 below it, 2 below that, 3 apart; NAME 0 in 0 and 1. */
    private static void findingGoesUp() {
        CodeShrinker x = new CodeShrinker();
        x.add(-1);
        x.add(0);
        x.add(1);
        x.add(-1);
        saying(x, 0, 0, 10);
        saying(x, 1, 0, 11);
        checks.due("its own", 10, () -> x.run(0, 0, 0));
        checks.due("its own before its PARENT's", 11, () -> x.run(1, 0, 0));
        checks.due("the nearest ANCESTOR's", 11, () -> x.run(2, 0, 0));
        checks.dueThrow("no ANCESTOR has it", NO_SUCH, () -> x.run(3, 0, 0));
        saying(x, 0, 1, 12);
        checks.due("past the PARENT", 12, () -> x.run(2, 1, 0));
        saying(x, 2, 2, 13);
        checks.dueThrow("not downwards", NO_SUCH, () -> x.run(1, 2, 0));
    }

    private static void selfIsForTheClassAtWork() {
        CodeShrinker x = new CodeShrinker();
        x.add(-1);
        x.add(0);
        x.add(0);
        int above = x.method(0, 0, 0);
        x.item(above, 2, 0, 1, 0);
        x.item(above, 2, 0, 1, 0);
        saying(x, 1, 1, 5);
        saying(x, 2, 1, 7);
        checks.due("SELF for CLASS 1", 5 * 31 + 5, () -> x.run(1, 0, 0));
        checks.due("SELF for CLASS 2", 7 * 31 + 7, () -> x.run(2, 0, 0));
        checks.dueThrow("SELF for CLASS 0", NO_SUCH, () -> x.run(0, 0, 0));
        saying(x, 0, 1, 9);
        checks.due("SELF in CLASS 0", 9 * 31 + 9, () -> x.run(0, 0, 0));
        checks.due("SELF for CLASS 1 still", 5 * 31 + 5, () -> x.run(1, 0, 0));
    }

    /** A CALL runs for its CLASS, and what comes behind it for the CLASS before. */
    private static void callChangesTheClassAtWork() {
        CodeShrinker x = new CodeShrinker();
        x.add(-1);
        x.add(0);
        x.add(0);
        int asks = x.method(0, 0, 0);
        x.item(asks, 2, 0, 1, 0);
        int both = x.method(0, 2, 0);
        x.item(both, 1, 2, 0, 0);
        x.item(both, 2, 0, 1, 0);
        saying(x, 1, 1, 5);
        saying(x, 2, 1, 7);
        checks.due("CALL for 2, then SELF for 1", 7 * 31 + 5, () -> x.run(1, 2, 0));
        checks.due("CALL for 2, then SELF for 2", 7 * 31 + 7, () -> x.run(2, 2, 0));
    }

    private static void findingNoneInside() {
        CodeShrinker x = new CodeShrinker();
        x.add(-1);
        x.add(-1);
        int calls = x.method(0, 0, 0);
        x.item(calls, 0, 1, 0, 0);
        x.item(calls, 1, 1, 0, 0);
        checks.dueThrow("CALL of none", NO_SUCH, () -> x.run(0, 0, 0));
        int asks = x.method(0, 1, 0);
        x.item(asks, 2, 0, 2, 0);
        checks.dueThrow("SELF of none", NO_SUCH, () -> x.run(0, 1, 0));
        x.method(0, 2, 1);
        checks.dueThrow("SELF of another ARITY", NO_SUCH, () -> x.run(0, 1, 0));
        saying(x, 0, 2, 4);
        checks.due("SELF of one that came later", 4, () -> x.run(0, 1, 0));
    }

    /** NAME n goes on to NAME n + 1 by CALL and SELF in turn; NAME 20 says 6. */
    private static CodeShrinker chain() {
        CodeShrinker x = new CodeShrinker();
        x.add(-1);
        for (int n = 0; n < 20; n++) {
            x.item(x.method(0, n, 0), 1 + n % 2, 0, n + 1, 0);
        }
        saying(x, 0, 20, 6);
        return x;
    }

    private static void sixteenWithinOneAnother() {
        CodeShrinker x = chain();
        checks.due("16 within one another", 6, () -> x.run(0, 5, 0));
        checks.dueThrow("17 within one another", TOO_MUCH, () -> x.run(0, 4, 0));
        checks.due("and 16 again", 6, () -> x.run(0, 5, 0));
        int forever = x.method(0, 21, 0);
        x.item(forever, 2, 0, 21, 0);
        checks.dueThrow("one that runs itself", TOO_MUCH, () -> x.run(0, 21, 0));
    }

    private static void depthIsSeenBeforeFinding() {
        CodeShrinker x = new CodeShrinker();
        x.add(-1);
        for (int n = 0; n < 16; n++) {
            x.item(x.method(0, n, 0), 1, 0, n + 1, 0);
        }
        checks.dueThrow("the 17th finds none", TOO_MUCH, () -> x.run(0, 0, 0));
        checks.dueThrow("the 16th finds none", NO_SUCH, () -> x.run(0, 1, 0));
    }

    private static void depthIsNotTheNumberOfCalls() {
        CodeShrinker x = new CodeShrinker();
        x.add(-1);
        int five = x.method(0, 0, 0);
        int twentyFive = x.method(0, 1, 0);
        x.method(0, 2, 0);
        for (int i = 0; i < 5; i++) {
            x.item(five, 1, 0, 2, 0);
            x.item(twentyFive, 2, 0, 0, 0);
        }
        checks.due("31 RUNNING, 3 within one another", 0, () -> x.run(0, 1, 0));
    }

    /**
     * RUNNING NAME n does: 0: 5 ITEMS, all SAY 1; 1: 30, 25 of them SAY; 2: 155, 125 of them SAY;
     * 3: 155 + 4 * 30 + 5 = 280, 225 of them SAY; 4: 280 + 3 * 5 + 4 = 299, 240 of them SAY.
     */
    private static CodeShrinker many() {
        CodeShrinker x = new CodeShrinker();
        x.add(-1);
        for (int n = 0; n < 5; n++) {
            x.method(0, n, 0);
        }
        for (int i = 0; i < 5; i++) {
            x.item(0, 0, 1, 0, 0);
            x.item(1, 1, 0, 0, 0);
            x.item(2, 2, 0, 1, 0);
            x.item(3, 1, 0, i == 0 ? 2 : 1, 0);
        }
        for (int i = 0; i < 4; i++) {
            x.item(4, 2, 0, i == 0 ? 3 : 0, 0);
        }
        return x;
    }

    private static void threeHundredItems() {
        CodeShrinker x = many();
        checks.due("299 ITEMS", ones(240), () -> x.run(0, 4, 0));
        int next = x.method(0, 5, 0);
        x.item(next, 1, 0, 4, 0);
        checks.due("300 ITEMS", ones(240), () -> x.run(0, 5, 0));
        x.item(next, 0, 1, 0, 0);
        checks.dueThrow("301 ITEMS", TOO_MUCH, () -> x.run(0, 5, 0));
        checks.due("299 ITEMS after it", ones(240), () -> x.run(0, 4, 0));
        x.item(4, 0, 1, 0, 0);
        checks.due("300 ITEMS, a SAY the last", ones(241), () -> x.run(0, 4, 0));
        checks.dueThrow("301 ITEMS, a SAY the last", TOO_MUCH, () -> x.run(0, 5, 0));
    }

    private static void itemsAreCountedBeforeTheyAreDone() {
        CodeShrinker x = many();
        int next = x.method(0, 5, 0);
        x.item(next, 1, 0, 4, 0);
        x.item(next, 1, 0, 25, 0);
        checks.dueThrow("the 301st ITEM would find none", TOO_MUCH, () -> x.run(0, 5, 0));
        x.item(4, 2, 0, 25, 0);
        checks.dueThrow("the 300th ITEM finds none", NO_SUCH, () -> x.run(0, 4, 0));
    }

    private static void badNumbers() {
        CodeShrinker x = new CodeShrinker();
        x.add(-1);
        saying(x, 0, 25, 1);
        checks.due("NAME 25", 1, () -> x.run(0, 25, 0));
        for (int out : new int[] {-1, 26, Integer.MIN_VALUE, Integer.MAX_VALUE}) {
            checks.dueThrow("run(" + out + ", 25, 0)", BAD, () -> x.run(out, 25, 0));
            checks.dueThrow("run(0, " + out + ", 0)", BAD, () -> x.run(0, out, 0));
            checks.dueThrow("run(0, 25, " + out + ")", BAD, () -> x.run(0, 25, out));
        }
        checks.dueThrow("run(1, 25, 0)", BAD, () -> x.run(1, 25, 0));
        checks.dueThrow("run(0, 25, 3)", BAD, () -> x.run(0, 25, 3));
        checks.dueThrow("bad comes before none", BAD, () -> x.run(0, 3, 3));
    }

    private static void runChangesNothing() {
        CodeShrinker x = new CodeShrinker();
        x.add(-1);
        saying(x, 0, 25, 1);
        x.run(0, 25, 0);
        checks.due("LIVE METHODS after run", 0, () -> x.count(2));
        checks.due("MADE CLASSES after run", 0, () -> x.count(3));
        checks.due("NAME after run", 25, () -> x.told(0, 1));
    }

    /** The OUTCOME of so many SAY 1. */
    private static int ones(int sayings) {
        int outcome = 0;
        for (int i = 0; i < sayings; i++) {
            outcome = 31 * outcome + 1;
        }
        return outcome;
    }

    private static void saying(CodeShrinker x, int of, int name, int value) {
        x.item(x.method(of, name, 0), 0, value, 0, 0);
    }
}

/** Promise 6: run. */
public final class RunningTest {
    private static final Class<java.util.NoSuchElementException> NO_SUCH = java.util.NoSuchElementException.class;

    private static final Checks checks = new Checks();

    public static void main(String[] args) {
        sayings();
        findingGoesUp();
        selfIsForTheClassAtWork();
        callChangesTheClassAtWork();
        findingNoneInside();
        runChangesNothing();
        checks.finish();
    }

    private static void sayings() {
        CodeShrinker x = new CodeShrinker();
        x.add(-1);
        x.method(0, 0, 0);
        checks.due("no ITEMS", 0, () -> x.run(0, 0, 0));
        x.item(0, 0, 3, 0, 0);
        checks.due("SAY 3", 3, () -> x.run(0, 0, 0));
        x.item(0, 0, -4, 0, 0);
        checks.due("SAY 3, -4", 3 * 31 - 4, () -> x.run(0, 0, 0));
        x.item(0, 0, Integer.MAX_VALUE, 0, 0);
        checks.due("wrapping", 89 * 31 + Integer.MAX_VALUE, () -> x.run(0, 0, 0));
        checks.due("from 0 again", 89 * 31 + Integer.MAX_VALUE, () -> x.run(0, 0, 0));
        checks.dueThrow("other NAME", NO_SUCH, () -> x.run(0, 1, 0));
        checks.dueThrow("other ARITY", NO_SUCH, () -> x.run(0, 0, 1));
    }

    /** Class 0, 1 below it, 2 below that, 3 apart; NAME 0 in 0 and 1. */
    private static void findingGoesUp() {
        CodeShrinker x = new CodeShrinker();
        x.add(-1);
        x.add(0);
        x.add(1);
        x.add(-1);
        saying(x, 0, 0, 10);
        saying(x, 1, 0, 11);
        checks.due("its own", 10, () -> x.run(0, 0, 0));
        checks.due("its own before its PARENT's", 11, () -> x.run(1, 0, 0));
        checks.due("the nearest ANCESTOR's", 11, () -> x.run(2, 0, 0));
        checks.dueThrow("no ANCESTOR has it", NO_SUCH, () -> x.run(3, 0, 0));
        saying(x, 0, 1, 12);
        checks.due("past the PARENT", 12, () -> x.run(2, 1, 0));
        saying(x, 2, 2, 13);
        checks.dueThrow("not downwards", NO_SUCH, () -> x.run(1, 2, 0));
    }

    private static void selfIsForTheClassAtWork() {
        CodeShrinker x = new CodeShrinker();
        x.add(-1);
        x.add(0);
        x.add(0);
        int above = x.method(0, 0, 0);
        x.item(above, 2, 0, 1, 0);
        x.item(above, 2, 0, 1, 0);
        saying(x, 1, 1, 5);
        saying(x, 2, 1, 7);
        checks.due("SELF for CLASS 1", 5 * 31 + 5, () -> x.run(1, 0, 0));
        checks.due("SELF for CLASS 2", 7 * 31 + 7, () -> x.run(2, 0, 0));
        checks.dueThrow("SELF for CLASS 0", NO_SUCH, () -> x.run(0, 0, 0));
        saying(x, 0, 1, 9);
        checks.due("SELF in CLASS 0", 9 * 31 + 9, () -> x.run(0, 0, 0));
        checks.due("SELF for CLASS 1 still", 5 * 31 + 5, () -> x.run(1, 0, 0));
    }

    /** A CALL runs for its CLASS, and what comes behind it for the CLASS before. */
    private static void callChangesTheClassAtWork() {
        CodeShrinker x = new CodeShrinker();
        x.add(-1);
        x.add(0);
        x.add(0);
        int asks = x.method(0, 0, 0);
        x.item(asks, 2, 0, 1, 0);
        int both = x.method(0, 2, 0);
        x.item(both, 1, 2, 0, 0);
        x.item(both, 2, 0, 1, 0);
        saying(x, 1, 1, 5);
        saying(x, 2, 1, 7);
        checks.due("CALL for 2, then SELF for 1", 7 * 31 + 5, () -> x.run(1, 2, 0));
        checks.due("CALL for 2, then SELF for 2", 7 * 31 + 7, () -> x.run(2, 2, 0));
    }

    private static void findingNoneInside() {
        CodeShrinker x = new CodeShrinker();
        x.add(-1);
        x.add(-1);
        int calls = x.method(0, 0, 0);
        x.item(calls, 0, 1, 0, 0);
        x.item(calls, 1, 1, 0, 0);
        checks.dueThrow("CALL of none", NO_SUCH, () -> x.run(0, 0, 0));
        int asks = x.method(0, 1, 0);
        x.item(asks, 2, 0, 2, 0);
        checks.dueThrow("SELF of none", NO_SUCH, () -> x.run(0, 1, 0));
        x.method(0, 2, 1);
        checks.dueThrow("SELF of another ARITY", NO_SUCH, () -> x.run(0, 1, 0));
        saying(x, 0, 2, 4);
        checks.due("SELF of one that came later", 4, () -> x.run(0, 1, 0));
    }

    private static void runChangesNothing() {
        CodeShrinker x = new CodeShrinker();
        x.add(-1);
        saying(x, 0, 25, 1);
        x.run(0, 25, 0);
        checks.due("LIVE METHODS after run", 0, () -> x.count(2));
        checks.due("MADE CLASSES after run", 0, () -> x.count(3));
        checks.due("NAME after run", 25, () -> x.told(0, 1));
    }

    private static void saying(CodeShrinker x, int of, int name, int value) {
        x.item(x.method(of, name, 0), 0, value, 0, 0);
    }
}

/** Promise 7, shrink, and what promise 12 tells of LIVE METHODS, MADE CLASSES and METHODS gone. */
public final class ShrinkingTest {
    private static final Class<IllegalArgumentException> BAD = IllegalArgumentException.class;
    private static final Class<java.util.NoSuchElementException> NO_SUCH = java.util.NoSuchElementException.class;

    private static final Checks checks = new Checks();

    public static void main(String[] args) {
        nothingKept();
        callsAreFollowed();
        aCallOfNoneMakesItsClass();
        keepingAloneMakesAClass();
        selfNeedsMadeClasses();
        selfLooksBelowTheMethodsClassOnly();
        selfSeesClassesMadeLater();
        ancestorsOfMadeStay();
        parentsAreNumberedAnew();
        numbersAreGivenAnew();
        beginningsAreRemembered();
        keptEntriesDoWhatTheyDid();
        checks.finish();
    }

    private static void nothingKept() {
        CodeShrinker x = new CodeShrinker();
        x.add(-1);
        x.add(0);
        x.method(0, 0, 0);
        x.method(1, 0, 0);
        counts("nothing KEPT", x, 2, 2, 0, 0, 0);
        checks.due("all go", 2, x::shrink);
        counts("all gone", x, 0, 0, 0, 0, 2);
        checks.due("nothing left to go", 0, x::shrink);
        checks.dueThrow("told(0, 0)", BAD, () -> x.told(0, 0));
        checks.due("PARENT of 0", -2, () -> x.count(10));
        checks.due("add(-1) after it", 0, () -> x.add(-1));
    }

    private static void callsAreFollowed() {
        CodeShrinker x = new CodeShrinker();
        x.add(-1);
        x.add(-1);
        x.add(1);
        int first = x.method(0, 0, 0);
        int second = x.method(1, 1, 0);
        int third = x.method(0, 2, 0);
        x.method(0, 3, 0);
        x.item(first, 1, 2, 1, 0);
        x.item(second, 1, 0, 2, 0);
        x.item(third, 1, 0, 0, 0);
        x.keep(first, true);
        counts("CALLS followed", x, 3, 4, 3, 2, 0);
        checks.due("one goes", 1, x::shrink);
        counts("one gone", x, 3, 3, 3, 2, 1);
        x.keep(0, false);
        counts("KEPT no more", x, 3, 3, 0, 0, 1);
        x.keep(1, true);
        counts("another KEPT", x, 3, 3, 3, 3, 1);
    }

    private static void aCallOfNoneMakesItsClass() {
        CodeShrinker x = new CodeShrinker();
        x.add(-1);
        x.add(-1);
        x.add(-1);
        int entry = x.method(0, 0, 0);
        x.item(entry, 1, 2, 9, 0);
        x.keep(entry, true);
        counts("CALL of none", x, 3, 1, 1, 2, 0);
        checks.due("no METHOD goes", 0, x::shrink);
        counts("CLASS 1 gone", x, 2, 1, 1, 2, 0);
        checks.due("the CALL's CLASS has a new number", 1, () -> x.inside(0, 0, 1));
        checks.dueThrow("it still finds none", NO_SUCH, () -> x.run(0, 0, 0));
    }

    private static void keepingAloneMakesAClass() {
        CodeShrinker x = new CodeShrinker();
        x.add(-1);
        x.add(0);
        x.method(0, 0, 0);
        x.method(1, 1, 0);
        x.keep(1, true);
        counts("one KEPT", x, 2, 2, 1, 1, 0);
        checks.due("the other goes", 1, x::shrink);
        counts("its ANCESTOR stays", x, 2, 1, 1, 1, 1);
    }

    /** A SELF in CLASS 0 comes to what is found from MADE CLASSES alone. */
    private static void selfNeedsMadeClasses() {
        CodeShrinker x = new CodeShrinker();
        x.add(-1);
        x.add(0);
        x.add(0);
        int base = x.method(0, 0, 0);
        x.item(base, 2, 0, 1, 0);
        x.method(0, 1, 0);
        x.method(1, 1, 0);
        x.method(2, 1, 0);
        int entry = x.method(2, 2, 0);
        x.item(entry, 1, 1, 0, 0);
        x.keep(entry, true);
        counts("1 and 2 MADE, 0 not", x, 3, 5, 4, 2, 0);
        x.item(entry, 1, 0, 0, 0);
        counts("0 MADE too", x, 3, 5, 5, 3, 0);
        x.keep(entry, false);
        x.keep(base, true);
        counts("0 alone MADE", x, 3, 5, 2, 1, 0);
        checks.due("three go", 3, x::shrink);
        counts("0 alone stays", x, 1, 2, 2, 1, 3);
    }

    private static void selfLooksBelowTheMethodsClassOnly() {
        CodeShrinker x = new CodeShrinker();
        x.add(-1);
        x.add(0);
        x.add(0);
        int entry = x.method(1, 0, 0);
        x.item(entry, 2, 0, 1, 0);
        int apart = x.method(2, 2, 0);
        x.method(2, 1, 0);
        x.method(0, 1, 0);
        x.keep(entry, true);
        x.keep(apart, true);
        counts("a MADE CLASS apart doesn't count", x, 3, 4, 3, 2, 0);
        checks.due("one goes", 1, x::shrink);
        checks.due("it was CLASS 2's", 3, () -> x.trace(0, 1, 0));
        checks.dueThrow("CLASS 2 has it no more", NO_SUCH, () -> x.trace(2, 1, 0));
    }

    /** METHOD 0's SELF is looked at before the METHODS behind it make CLASS 1. */
    private static void selfSeesClassesMadeLater() {
        CodeShrinker x = new CodeShrinker();
        x.add(-1);
        x.add(0);
        x.add(-1);
        int base = x.method(0, 0, 0);
        x.item(base, 2, 0, 1, 0);
        x.keep(base, true);
        x.method(1, 1, 0);
        int other = x.method(2, 3, 0);
        x.item(other, 1, 1, 9, 0);
        int entry = x.method(2, 2, 0);
        x.item(entry, 1, 2, 3, 0);
        x.keep(entry, true);
        counts("CLASS 1 is MADE last", x, 3, 4, 4, 3, 0);
        checks.due("none goes", 0, x::shrink);
    }

    private static void ancestorsOfMadeStay() {
        CodeShrinker x = new CodeShrinker();
        x.add(-1);
        x.add(0);
        x.add(0);
        x.add(1);
        x.add(3);
        x.method(3, 0, 0);
        x.method(4, 0, 0);
        x.keep(0, true);
        checks.due("one goes", 1, x::shrink);
        counts("0, 1 and 3 stay", x, 3, 1, 1, 1, 1);
        checks.due("PARENT of 0", -1, () -> x.count(10));
        checks.due("PARENT of 1", 0, () -> x.count(11));
        checks.due("PARENT of what was 3", 1, () -> x.count(12));
        checks.due("CLASS of the METHOD", 2, () -> x.told(0, 0));
        checks.due("CLASS at its beginning", 3, () -> x.told(0, 5));
    }

    private static void parentsAreNumberedAnew() {
        CodeShrinker x = new CodeShrinker();
        x.add(-1);
        x.add(-1);
        x.add(1);
        x.method(2, 0, 0);
        x.keep(0, true);
        checks.due("no METHOD goes", 0, x::shrink);
        checks.due("two CLASSES stay", 2, () -> x.count(0));
        checks.due("PARENT of what was 1", -1, () -> x.count(10));
        checks.due("PARENT of what was 2", 0, () -> x.count(11));
        checks.due("no CLASS 2", -2, () -> x.count(12));
    }

    private static void numbersAreGivenAnew() {
        CodeShrinker x = new CodeShrinker();
        for (int c = 0; c < 8; c++) {
            x.add(-1);
            x.method(c, c, c % 3);
        }
        x.item(2, 1, 5, 5, 2);
        x.item(2, 0, 5, 0, 0);
        x.item(5, 2, 0, 5, 2);
        x.keep(2, true);
        x.keep(7, true);
        checks.due("five go", 5, x::shrink);
        counts("2, 5 and 7 stay", x, 3, 3, 3, 3, 5);
        long[] name = {2, 5, 7};
        for (int m = 0; m < 3; m++) {
            int at = m;
            checks.due("CLASS of " + at, at, () -> x.told(at, 0));
            checks.due("NAME of " + at, name[at], () -> x.told(at, 1));
            checks.due("CLASS of " + at + " at its beginning", name[at], () -> x.told(at, 5));
            checks.due("number of " + at + " at its beginning", name[at], () -> x.told(at, 7));
        }
        checks.due("the CALL goes on to it", 1, () -> x.inside(0, 0, 1));
        checks.due("v isn't a number of a CLASS", 5, () -> x.inside(0, 1, 1));
        checks.due("SELF has no CLASS", -1, () -> x.inside(1, 0, 1));
        checks.due("KEPT stays", 1, () -> x.told(2, 4));
    }

    private static void beginningsAreRemembered() {
        CodeShrinker x = new CodeShrinker();
        x.add(-1);
        x.add(-1);
        x.method(0, 0, 0);
        x.method(1, 1, 0);
        x.keep(1, true);
        checks.due("METHOD 0 and CLASS 0 go", 1, x::shrink);
        checks.due("a new METHOD of what was CLASS 1", 1, () -> x.method(0, 2, 0));
        checks.due("its CLASS began as 1", 1, () -> x.told(1, 5));
        checks.due("it began as 1", 1, () -> x.told(1, 7));
        checks.due("a new CLASS", 1, () -> x.add(0));
        checks.due("its METHOD", 2, () -> x.method(1, 3, 0));
        checks.due("that CLASS began as 1 too", 1, () -> x.told(2, 5));
        x.keep(2, true);
        checks.due("METHOD 1 goes", 1, x::shrink);
        checks.due("gone in all", 2, () -> x.count(4));
        checks.due("what began as 2 is 1", 2, () -> x.told(1, 7));
        checks.due("trace tells its beginning", 2, () -> x.trace(1, 3, 0));
    }

    private static void keptEntriesDoWhatTheyDid() {
        CodeShrinker x = new CodeShrinker();
        x.add(-1);
        x.add(-1);
        x.add(1);
        x.method(0, 9, 0);
        int base = x.method(1, 0, 1);
        x.item(base, 2, 0, 1, 2);
        x.item(base, 0, 3, 0, 0);
        int own = x.method(2, 1, 2);
        x.item(own, 0, 4, 0, 0);
        int entry = x.method(2, 2, 0);
        x.item(entry, 1, 2, 0, 1);
        x.keep(entry, true);
        checks.due("before", 4 * 31 + 3, () -> x.run(2, 2, 0));
        checks.due("one goes", 1, x::shrink);
        checks.due("after", 4 * 31 + 3, () -> x.run(1, 2, 0));
        checks.dueThrow("no CLASS 2 now", BAD, () -> x.run(2, 2, 0));
    }

    private static void counts(String when, CodeShrinker x, int... due) {
        for (int what = 0; what < due.length; what++) {
            int w = what;
            checks.due(when + ": count(" + w + ")", due[w], () -> x.count(w));
        }
    }
}

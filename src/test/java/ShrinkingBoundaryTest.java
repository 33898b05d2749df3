/**
 * The boundary cases of promise 7, and of what promise 12 tells of LIVE METHODS and MADE CLASSES:
 * one test for each sentence that names one. The text at the beginning of each test says the promise
 * and the sentence.
 */
public final class ShrinkingBoundaryTest {
    private static final Checks checks = new Checks();

    public static void main(String[] args) {
        nothingKept();
        everythingKept();
        keptNoMore();
        callOfNone();
        callUpwards();
        callOfItself();
        selfOfMadeClassesAlone();
        selfOfItsOwnClassAlone();
        selfOfEveryMadeClassBelow();
        selfOfNone();
        untilNothingIsAddedByCalls();
        untilNothingIsAddedByClasses();
        untilNothingIsAddedByOneClass();
        nothingToShrink();
        allMethodsGone();
        noMethodsGone();
        classesWithoutMethods();
        ancestorsOfTheLastClass();
        theFirstClassAlone();
        madeIsNotHavingAMethodLeft();
        numberedFromZero();
        lastNumbersAreNoMore();
        callsNameClassesThatStay();
        beginnings();
        beginningsOfNumbersGivenAgain();
        keptEntriesDoWhatTheyDid();
        checks.finish();
    }

    private static void nothingKept() {
        script("Promise 12, Terms: KEPT METHODS are LIVE, and their CLASSES MADE.").rows(
                "add(-1) = 0", "count(2) = 0", "count(3) = 0", "method(0, 0, 0) = 0", "item(0, 1, 0, 0, 0) = 1",
                "item(0, 2, 0, 0, 0) = 2", "count(2) = 0", "count(3) = 0");
    }

    private static void everythingKept() {
        Script s = script("Promise 12, Terms: KEPT METHODS are LIVE, and their CLASSES MADE.");
        chainOfClasses(s);
        for (int m = 0; m < 24; m++) {
            s.row("method(%d, %d, 0) = %d", m % 8, m, m);
            s.row("keep(%d, true)", m);
            s.row("count(2) = %d", m + 1);
            s.row("count(3) = %d", Math.min(m + 1, 8));
        }
    }

    /** What is LIVE is seen from now: no mark stays behind. */
    private static void keptNoMore() {
        script("Promise 12, Terms: KEPT METHODS are LIVE, and their CLASSES MADE.").rows(
                "add(-1) = 0", "add(-1) = 1", "method(0, 0, 0) = 0", "method(1, 0, 0) = 1", "item(0, 1, 1, 0, 0) = 1",
                "keep(0, true)", "count(2) = 2", "count(3) = 2", "keep(0, false)", "count(2) = 0", "count(3) = 0",
                "keep(1, true)", "count(2) = 1", "count(3) = 1", "shrink() = 1", "told(0, 7) = 1");
    }

    private static void callOfNone() {
        script("Promise 7, Terms: CALL: its CLASS is MADE, what FINDING gives is LIVE.").rows(
                "add(-1) = 0", "add(-1) = 1", "add(-1) = 2", "method(0, 0, 0) = 0", "item(0, 1, 2, 9, 0) = 1",
                "keep(0, true)", "count(2) = 1", "count(3) = 2", "shrink() = 0", "count(0) = 2",
                "inside(0, 0, 1) = 1", "inside(0, 0, 2) = 9", "run(0, 0, 0) = NSEE");
    }

    /** What is found above makes the CALL's CLASS, not the one in which it is found. */
    private static void callUpwards() {
        script("Promise 7, Terms: CALL: its CLASS is MADE, what FINDING gives is LIVE.").rows(
                "add(-1) = 0", "add(0) = 1", "add(-1) = 2", "method(2, 0, 0) = 0", "item(0, 1, 1, 5, 0) = 1",
                "method(0, 5, 0) = 1", "method(0, 5, 1) = 2", "keep(0, true)", "count(2) = 2", "count(3) = 2",
                "shrink() = 1", "count(0) = 3", "count(3) = 2");
    }

    private static void callOfItself() {
        script("Promise 7, Terms: And so on until nothing is added.").rows(
                "add(-1) = 0", "method(0, 0, 0) = 0", "item(0, 1, 0, 0, 0) = 1", "item(0, 2, 0, 0, 0) = 2",
                "method(0, 1, 0) = 1", "item(1, 1, 0, 1, 0) = 1", "keep(0, true)", "count(2) = 1", "shrink() = 1",
                "run(0, 0, 0) = ISE");
    }

    /** METHOD 0 is found for CLASS 2; CLASSES 0 and 1 have NAME 1 too, but aren't MADE. */
    private static void selfOfMadeClassesAlone() {
        String sentence = "Promise 7, Terms: SELF: for each MADE CLASS that is the METHOD's CLASS or has it as an "
                + "ANCESTOR, what FINDING gives from there is LIVE.";
        script(sentence).rows(
                "add(-1) = 0", "add(0) = 1", "add(0) = 2", "method(0, 0, 0) = 0", "item(0, 2, 0, 1, 0) = 1",
                "method(0, 1, 0) = 1", "method(1, 1, 0) = 2", "method(2, 1, 0) = 3", "method(2, 2, 0) = 4",
                "item(4, 1, 2, 0, 0) = 1", "keep(4, true)", "count(3) = 1", "count(2) = 3", "shrink() = 2",
                "count(0) = 2", "trace(1, 1, 0) = 3", "trace(0, 1, 0) = NSEE");
    }

    private static void selfOfItsOwnClassAlone() {
        script("Promise 7, Terms: for each MADE CLASS that is the METHOD's CLASS").rows(
                "add(-1) = 0", "add(0) = 1", "add(1) = 2", "method(1, 0, 0) = 0", "item(0, 2, 0, 1, 0) = 1",
                "method(0, 1, 0) = 1", "method(2, 1, 0) = 2", "keep(0, true)", "count(3) = 1", "count(2) = 2",
                // CLASS 0 is MADE and above the METHOD's CLASS: its own SELF is none of it.
                "method(0, 2, 0) = 3", "keep(3, true)", "method(1, 1, 0) = 4", "count(3) = 2", "count(2) = 3",
                "shrink() = 2", "trace(1, 1, 0) = 4", "trace(0, 1, 0) = NSEE");
    }

    /** CLASSES 1 to 7 below CLASS 0, each with its own NAME 1; all MADE but 3 and 6. */
    private static void selfOfEveryMadeClassBelow() {
        Script s = script("Promise 7, Terms: or has it as an ANCESTOR, what FINDING gives from there is LIVE");
        s.rows("add(-1) = 0", "method(0, 0, 0) = 0", "item(0, 2, 0, 1, 0) = 1", "keep(0, true)",
                "method(0, 1, 0) = 1");
        for (int c = 1; c < 8; c++) {
            s.row("add(%d) = %d", c / 3, c);
            s.row("method(%d, 1, 0) = %d", c, 2 * c);
            s.row("method(%d, 2, 0) = %d", c, 2 * c + 1);
            if (c != 3 && c != 6) {
                s.row("keep(%d, true)", 2 * c + 1);
            }
        }
        s.rows("count(3) = 6", "count(2) = 12", "shrink() = 4", "count(0) = 6");
    }

    private static void selfOfNone() {
        script("Promise 7, Terms: what FINDING gives from there is LIVE").rows(
                "add(-1) = 0", "add(0) = 1", "method(0, 0, 0) = 0", "item(0, 2, 0, 1, 0) = 1", "method(0, 1, 1) = 1",
                "method(1, 1, 0) = 2", "keep(0, true)", "count(2) = 1", "shrink() = 2", "count(0) = 1",
                "inside(0, 0, 2) = 1", "run(0, 0, 0) = NSEE");
    }

    /** METHOD m comes to METHOD m - 1 alone, and only the last is KEPT. */
    private static void untilNothingIsAddedByCalls() {
        Script s = script("Promise 12, Terms: And so on until nothing is added.");
        chainOfClasses(s);
        for (int m = 0; m < 24; m++) {
            s.row("method(%d, %d, 0) = %d", 7 - m / 3, m, m);
            if (m > 0) {
                s.row("item(%d, 1, %d, %d, 0) = 1", m, 7 - (m - 1) / 3, m - 1);
            }
        }
        s.rows("keep(23, true)", "count(2) = 24", "count(3) = 8", "shrink() = 0", "keep(23, false)",
                "keep(12, true)", "count(2) = 13", "count(3) = 5", "shrink() = 11", "count(0) = 8");
    }

    /**
     * CLASS c's NAME 1 makes CLASS c + 1, and then the SELF of CLASS 0's NAME 0 comes to that CLASS's
     * NAME 1. METHODS come in the order that finds each as late as can be.
     */
    private static void untilNothingIsAddedByClasses() {
        Script s = script("Promise 12, Terms: And so on until nothing is added.");
        s.row("add(-1) = 0");
        for (int c = 1; c < 8; c++) {
            s.row("add(0) = %d", c);
        }
        for (int c = 7; c >= 0; c--) {
            s.row("method(%d, 1, 0) = %d", c, 7 - c);
            if (c < 7) {
                s.row("item(%d, 1, %d, 25, 2) = 1", 7 - c, c + 1);
            }
        }
        s.rows("method(0, 0, 0) = 8", "item(8, 2, 0, 1, 0) = 1", "keep(8, true)", "count(2) = 9", "count(3) = 8",
                "shrink() = 0");
    }

    /** Behind METHOD 0's SELF, METHOD 1 adds a MADE CLASS and no LIVE METHOD: the SELF comes to it even so. */
    private static void untilNothingIsAddedByOneClass() {
        script("Promise 12, Terms: And so on until nothing is added.").rows(
                "add(-1) = 0", "add(0) = 1", "add(-1) = 2", "method(0, 0, 0) = 0", "item(0, 2, 0, 1, 0) = 1",
                "method(2, 0, 0) = 1", "item(1, 1, 1, 25, 0) = 1", "method(1, 1, 0) = 2", "keep(0, true)",
                "keep(1, true)", "count(3) = 3", "count(2) = 3", "shrink() = 0", "keep(1, false)", "count(3) = 1",
                "count(2) = 1", "shrink() = 2");
    }

    private static void nothingToShrink() {
        script("Promise 7: Answers how many METHODS are gone.").rows(
                "shrink() = 0", "count(4) = 0", "add(-1) = 0", "shrink() = 0", "count(0) = 0", "count(4) = 0");
    }

    private static void allMethodsGone() {
        Script s = script("Promise 7, Terms: METHODS that aren't LIVE are gone");
        fullOfMethods(s);
        s.rows("shrink() = 24", "count(0) = 0", "count(1) = 0", "count(4) = 24", "told(0, 0) = IAE",
                "run(0, 0, 0) = IAE", "shrink() = 0", "count(4) = 24");
        fullOfMethods(s);
        s.rows("shrink() = 24", "count(4) = 48");
    }

    private static void noMethodsGone() {
        Script s = script("Promise 7, Terms: METHODS that aren't LIVE are gone");
        fullOfMethods(s);
        for (int m = 0; m < 24; m++) {
            s.row("keep(%d, true)", m);
        }
        s.rows("shrink() = 0", "count(0) = 8", "count(1) = 24", "count(4) = 0");
    }

    private static void classesWithoutMethods() {
        script("Promise 7, Terms: CLASSES that are neither MADE nor an ANCESTOR of a MADE one are gone").rows(
                "add(-1) = 0", "add(-1) = 1", "add(1) = 2", "method(1, 0, 0) = 0", "keep(0, true)", "shrink() = 0",
                "count(0) = 1", "told(0, 0) = 0", "count(10) = -1");
    }

    private static void ancestorsOfTheLastClass() {
        Script s = script("Promise 7, Terms: nor an ANCESTOR of a MADE one");
        chainOfClasses(s);
        s.rows("method(7, 0, 0) = 0", "method(3, 0, 0) = 1", "keep(0, true)", "shrink() = 1", "count(0) = 8",
                "count(3) = 1", "told(0, 0) = 7");
        for (int c = 0; c < 8; c++) {
            s.row("count(%d) = %d", 10 + c, c - 1);
        }
    }

    private static void theFirstClassAlone() {
        Script s = script("Promise 7, Terms: CLASSES that are neither MADE nor an ANCESTOR of a MADE one are gone, "
                + "with what they have");
        chainOfClasses(s);
        s.rows("method(7, 0, 0) = 0", "method(1, 0, 0) = 1", "method(0, 0, 0) = 2", "keep(2, true)", "shrink() = 2",
                "count(0) = 1", "count(1) = 1", "told(0, 0) = 0", "told(0, 7) = 2", "count(11) = -2");
    }

    /** CLASS 0 loses all its METHODS and stays; CLASS 1 has one that is found for CLASS 2. */
    private static void madeIsNotHavingAMethodLeft() {
        script("Promise 7, Terms: CLASSES that are neither MADE nor an ANCESTOR of a MADE one are gone").rows(
                "add(-1) = 0", "add(0) = 1", "add(1) = 2", "add(1) = 3", "method(0, 0, 0) = 0", "method(1, 1, 0) = 1",
                "method(3, 2, 0) = 2", "add(-1) = 4", "method(4, 3, 0) = 3", "item(3, 1, 2, 1, 0) = 1",
                "keep(3, true)", "shrink() = 2", "count(0) = 4", "count(3) = 2", "told(0, 0) = 1", "told(1, 0) = 3",
                "inside(1, 0, 1) = 2", "count(12) = 1", "count(13) = -1");
    }

    private static void numberedFromZero() {
        script("Promise 7, Terms: the others are numbered from 0, in order; METHODS likewise").rows(
                "add(-1) = 0", "add(-1) = 1", "add(0) = 2", "add(1) = 3", "add(3) = 4", "method(4, 9, 0) = 0",
                "method(2, 8, 1) = 1", "method(3, 7, 2) = 2", "method(1, 6, 0) = 3", "keep(0, true)", "keep(3, true)",
                "shrink() = 2", "count(0) = 3", "count(10) = -1", "count(11) = 0", "count(12) = 1",
                "told(0, 0) = 2", "told(0, 1) = 9", "told(1, 0) = 0", "told(1, 1) = 6", "add(2) = 3",
                "method(3, 0, 0) = 2");
    }

    private static void lastNumbersAreNoMore() {
        script("Promise 7, Terms: a CLASS or METHOD that isn't there").rows(
                "add(-1) = 0", "add(-1) = 1", "method(0, 0, 0) = 0", "method(1, 0, 0) = 1", "keep(1, true)",
                "shrink() = 1", "told(1, 0) = IAE", "inside(1, 0, 0) = IAE", "keep(1, true) = IAE",
                "item(1, 0, 0, 0, 0) = IAE", "method(1, 0, 0) = IAE", "run(1, 0, 0) = IAE", "trace(1, 0, 0) = IAE",
                "add(1) = IAE", "item(0, 1, 1, 0, 0) = IAE", "count(11) = -2");
    }

    /** Every CALL of the one that stays goes to another CLASS, and none of them is found. */
    private static void callsNameClassesThatStay() {
        Script s = script("Promise 7, Terms: A CALL of a METHOD that stays names just CLASSES that stay.");
        for (int c = 0; c < 8; c++) {
            s.row("add(-1) = %d", c);
        }
        s.row("method(7, 0, 0) = 0");
        for (int i = 0; i < 5; i++) {
            s.row("item(0, 1, %d, 9, 1) = %d", 6 - i, i + 1);
        }
        s.rows("keep(0, true)", "count(3) = 6", "shrink() = 0", "count(0) = 6", "told(0, 0) = 5");
        for (int i = 0; i < 5; i++) {
            s.row("inside(0, %d, 1) = %d", i, 4 - i);
        }
    }

    private static void beginnings() {
        String sentence = "Promise 9, Terms: Each METHOD remembers the numbers of its CLASS and its own, and the NAME, "
                + "that it had when it came to be";
        script(sentence).rows(
                "add(-1) = 0", "add(-1) = 1", "add(-1) = 2", "method(0, 5, 0) = 0", "method(1, 6, 0) = 1",
                "method(2, 7, 0) = 2", "keep(1, true)", "keep(2, true)", "shrink() = 1", "keep(0, false)",
                "shrink() = 1", "keep(0, false)", "rename() = 1", "rename() = 1", "told(0, 0) = 0", "told(0, 1) = 0",
                "told(0, 5) = 2", "told(0, 6) = 7", "told(0, 7) = 2", "trace(0, 0, 0) = 2");
    }

    /** A METHOD that comes later to a CLASS tells the number with which that CLASS began. */
    private static void beginningsOfNumbersGivenAgain() {
        script("Promise 9, Terms: (its CLASS's: the one that CLASS had when that came to be)").rows(
                "add(-1) = 0", "add(-1) = 1", "method(1, 0, 0) = 0", "keep(0, true)", "shrink() = 0", "count(0) = 1",
                "method(0, 1, 0) = 1", "told(1, 0) = 0", "told(1, 5) = 1", "told(1, 7) = 1", "add(-1) = 1",
                "method(1, 0, 0) = 2", "told(2, 0) = 1", "told(2, 5) = 1", "told(2, 7) = 2");
    }

    /** One entry has an OUTCOME, one finds none, one goes too deep. */
    private static void keptEntriesDoWhatTheyDid() {
        script("Promise 7, Terms: Programs can be run all the time, and kept entries do what they did.").rows(
                "add(-1) = 0", "add(-1) = 1", "method(0, 0, 0) = 0", "method(1, 5, 0) = 1", "item(1, 1, 1, 6, 0) = 1",
                "method(1, 6, 0) = 2", "item(2, 0, 12, 0, 0) = 1", "method(1, 7, 0) = 3", "item(3, 2, 0, 8, 0) = 1",
                "method(1, 9, 0) = 4", "item(4, 2, 0, 9, 0) = 1", "keep(1, true)", "keep(3, true)", "keep(4, true)",
                "run(1, 5, 0) = 12", "run(1, 7, 0) = NSEE", "run(1, 9, 0) = ISE", "shrink() = 1",
                "run(0, 5, 0) = 12", "run(0, 7, 0) = NSEE", "run(0, 9, 0) = ISE");
    }

    private static Script script(String sentence) {
        return new Script(checks, sentence);
    }

    private static void chainOfClasses(Script s) {
        for (int c = 0; c < 8; c++) {
            s.row("add(%d) = %d", c - 1, c);
        }
    }

    private static void fullOfMethods(Script s) {
        chainOfClasses(s);
        for (int m = 0; m < 24; m++) {
            s.row("method(%d, %d, 0) = %d", m % 8, m, m);
        }
    }
}

/**
 * The boundary cases of promises 8 and 11: one test for each sentence that names one. The text at the
 * beginning of each test says the promise and the sentence.
 */
public final class RenamingBoundaryTest {
    private static final int LEAST = Integer.MIN_VALUE;
    private static final int MOST = Integer.MAX_VALUE;

    private static final Checks checks = new Checks();

    public static void main(String[] args) {
        nothingToRename();
        twentyFourFamilies();
        oneFamilyOfEightClasses();
        relatedFarAway();
        cousinsAreNotRelated();
        joinedByOthers();
        alikeButNotJoined();
        joinedByStandInsOfOthers();
        standInsTakeNoRoom();
        standInsAreNoMethods();
        standInsAlone();
        standInsAloneDoNotClash();
        keptIfOneIs();
        keptByNoStandIn();
        otherAritiesDoNotClash();
        clashByAStandIn();
        lowestMethodsFirst();
        enoughNames();
        enoughNamesBesideKeptOnes();
        allKept();
        keptNamesFurtherBack();
        namesOfFarFamiliesAreFree();
        callsOfNone();
        callsOfWhatIsAbove();
        selfOfNone();
        twentySixIsNeverFound();
        twentySixStays();
        keptEntriesDoWhatTheyDid();
        againAndAgain();
        traceAtItsEdges();
        traceOfNone();
        traceOfItsOwnAlone();
        traceOfTheNamesNow();
        traceOutOfRange();
        traceBadComesFirst();
        checks.finish();
    }

    private static void nothingToRename() {
        script("Promise 8: Answers how many FAMILIES there are.").rows(
                "rename() = 0", "add(-1) = 0", "rename() = 0", "method(0, 9, 0) = 0", "rename() = 1",
                "told(0, 1) = 0", "shrink() = 1", "rename() = 0");
    }

    private static void twentyFourFamilies() {
        Script s = script("Promise 8: Answers how many FAMILIES there are.");
        for (int c = 0; c < 8; c++) {
            s.row("add(-1) = %d", c);
        }
        for (int m = 0; m < 24; m++) {
            s.row("method(%d, 9, %d) = %d", m / 3, m % 3, m);
        }
        s.row("rename() = 24");
        for (int m = 0; m < 24; m++) {
            s.row("told(%d, 1) = 0", m);
        }
    }

    private static void oneFamilyOfEightClasses() {
        Script s = script("Promise 8, Terms: with the same NAME and ARITY in RELATED CLASSES are of one FAMILY");
        chainOfClasses(s);
        for (int m = 0; m < 8; m++) {
            s.row("method(%d, 25, 2) = %d", 7 - m, m);
        }
        s.row("rename() = 1");
        for (int m = 0; m < 8; m++) {
            s.row("told(%d, 1) = 0", m);
        }
    }

    private static void relatedFarAway() {
        Script s = script("Promise 8, Terms: RELATED: the same, or one an ANCESTOR of the other.");
        chainOfClasses(s);
        s.rows("method(7, 9, 0) = 0", "method(0, 8, 0) = 1", "method(0, 9, 0) = 2", "method(7, 7, 0) = 3",
                "rename() = 3", "told(0, 1) = 0", "told(1, 1) = 1", "told(2, 1) = 0", "told(3, 1) = 2");
    }

    /** CLASSES 1 and 2 below 0, 3 below 1, 4 below 2. */
    private static void cousinsAreNotRelated() {
        script("Promise 8, Terms: RELATED: the same, or one an ANCESTOR of the other.").rows(
                "add(-1) = 0", "add(0) = 1", "add(0) = 2", "add(1) = 3", "add(2) = 4", "method(3, 9, 0) = 0",
                "method(4, 9, 0) = 1", "method(2, 8, 0) = 2", "method(1, 7, 0) = 3", "rename() = 4",
                "told(0, 1) = 0", "told(1, 1) = 0", "told(2, 1) = 1", "told(3, 1) = 1");
    }

    /** CLASSES 3 and 4 are of one FAMILY only by way of 1, 0 and 2. */
    private static void joinedByOthers() {
        script("Promise 8, Terms: and so are those that are so by others").rows(
                "add(-1) = 0", "add(0) = 1", "add(0) = 2", "add(1) = 3", "add(2) = 4", "method(3, 9, 0) = 0",
                "method(4, 8, 0) = 1", "method(4, 9, 0) = 2", "method(0, 9, 0) = 3", "keep(0, true)", "rename() = 2",
                "told(0, 1) = 9", "told(1, 1) = 0", "told(2, 1) = 9", "told(3, 1) = 9");
    }

    /** Alike, and both RELATED to METHODS of one FAMILY, but of another NAME. */
    private static void alikeButNotJoined() {
        script("Promise 8, Terms: and so are those that are so by others").rows(
                "add(-1) = 0", "add(0) = 1", "add(0) = 2", "method(1, 9, 0) = 0", "method(2, 9, 0) = 1",
                "method(0, 8, 0) = 2", "method(0, 9, 1) = 3", "keep(0, true)", "rename() = 4", "told(0, 1) = 9",
                "told(1, 1) = 0", "told(2, 1) = 1", "told(3, 1) = 0");
    }

    /** CLASS 1's SELF stands in CLASS 1, CLASS 0's in CLASS 0: only the latter joins CLASSES 1 and 2. */
    private static void joinedByStandInsOfOthers() {
        String sentence = "Promise 8, Terms: each SELF ITEM stands for one more METHOD, a STAND-IN, of the CLASS of its "
                + "METHOD, with its NAME and ARITY.";
        script(sentence).rows(
                "add(-1) = 0", "add(0) = 1", "add(0) = 2", "method(1, 9, 0) = 0", "method(2, 9, 0) = 1",
                "item(0, 2, 0, 9, 0) = 1", "keep(0, true)", "rename() = 2", "told(0, 1) = 9", "told(1, 1) = 0");
        script(sentence).rows(
                "add(-1) = 0", "add(0) = 1", "add(0) = 2", "method(1, 9, 0) = 0", "method(2, 9, 0) = 1",
                "method(0, 5, 2) = 2", "item(2, 2, 0, 9, 0) = 1", "keep(0, true)", "rename() = 2", "told(0, 1) = 9",
                "told(1, 1) = 9", "told(2, 1) = 0", "inside(2, 0, 2) = 9", "inside(2, 0, 3) = 0");
    }

    /** 24 METHODS and 120 STAND-INS, five of each. */
    private static void standInsTakeNoRoom() {
        Script s = script("Promise 8, Terms: each SELF ITEM stands for one more METHOD, a STAND-IN");
        s.row("add(-1) = 0");
        for (int m = 0; m < 24; m++) {
            s.row("method(0, %d, 1) = %d", 25 - m, m);
            for (int i = 0; i < 5; i++) {
                s.row("item(%d, 2, 0, %d, 1) = %d", m, 25 - (m + i) % 24, i + 1);
            }
        }
        s.row("rename() = 24");
        for (int m = 0; m < 24; m++) {
            s.row("told(%d, 1) = %d", m, m);
            s.row("inside(%d, 4, 2) = %d", m, (m + 4) % 24);
        }
    }

    private static void standInsAreNoMethods() {
        script("Promise 8, Terms: FAMILIES: for these, each SELF ITEM stands for one more METHOD").rows(
                "add(-1) = 0", "method(0, 5, 0) = 0", "item(0, 2, 0, 9, 1) = 1", "count(1) = 1", "run(0, 9, 1) = NSEE",
                "trace(0, 9, 1) = NSEE", "method(0, 9, 1) = 1", "rename() = 2", "count(1) = 2");
    }

    private static void standInsAlone() {
        script("Promise 8, Terms: A FAMILY of STAND-INS alone is none.").rows(
                "add(-1) = 0", "add(0) = 1", "method(0, 5, 0) = 0", "method(1, 6, 0) = 1", "item(0, 2, 0, 9, 1) = 1",
                "item(1, 2, 0, 9, 1) = 1", "keep(0, true)", "rename() = 2", "inside(0, 0, 2) = 26",
                "inside(1, 0, 2) = 26", "inside(0, 0, 3) = 1");
    }

    /** The STAND-INS have NAMES 0 and 1 of ARITY 0, and the METHODS take these. */
    private static void standInsAloneDoNotClash() {
        script("Promise 8, Terms: A FAMILY of STAND-INS alone is none.").rows(
                "add(-1) = 0", "method(0, 5, 0) = 0", "method(0, 6, 0) = 1", "item(0, 2, 0, 0, 0) = 1",
                "item(0, 2, 0, 1, 0) = 2", "rename() = 2", "told(0, 1) = 0", "told(1, 1) = 1",
                "inside(0, 0, 2) = 26", "inside(0, 1, 2) = 26", "run(0, 0, 0) = NSEE");
    }

    private static void keptIfOneIs() {
        script("Promise 8, Terms: It's KEPT if one in it is.").rows(
                "add(-1) = 0", "add(0) = 1", "add(1) = 2", "method(0, 9, 0) = 0", "method(1, 9, 0) = 1",
                "method(2, 9, 0) = 2", "method(2, 9, 1) = 3", "keep(2, true)", "rename() = 2", "told(0, 1) = 9",
                "told(1, 1) = 9", "told(2, 1) = 9", "told(3, 1) = 0", "told(0, 4) = 0", "keep(2, false)",
                "rename() = 2", "told(0, 1) = 0", "told(2, 1) = 0");
    }

    /** The STAND-IN of a KEPT METHOD keeps nothing. */
    private static void keptByNoStandIn() {
        script("Promise 8, Terms: It's KEPT if one in it is.").rows(
                "add(-1) = 0", "method(0, 5, 0) = 0", "item(0, 2, 0, 9, 0) = 1", "method(0, 9, 0) = 1",
                "keep(0, true)", "rename() = 2", "told(0, 1) = 5", "told(1, 1) = 0", "inside(0, 0, 2) = 0");
    }

    private static void otherAritiesDoNotClash() {
        script("Promise 8, Terms: Two of the same ARITY CLASH").rows(
                "add(-1) = 0", "add(0) = 1", "method(0, 0, 0) = 0", "method(0, 7, 1) = 1", "method(1, 8, 2) = 2",
                "method(1, 9, 1) = 3", "keep(0, true)", "rename() = 4", "told(0, 1) = 0", "told(1, 1) = 0",
                "told(2, 1) = 0", "told(3, 1) = 1");
    }

    /** METHODS in CLASSES 1 and 2 clash only by the STAND-IN of the first's FAMILY in CLASS 0. */
    private static void clashByAStandIn() {
        String sentence = "Promise 8, Terms: if a METHOD (or STAND-IN) of the one and one of the other are in RELATED "
                + "CLASSES";
        script(sentence).rows(
                "add(-1) = 0", "add(0) = 1", "add(0) = 2", "method(1, 9, 1) = 0", "method(2, 8, 1) = 1",
                "method(0, 5, 0) = 2", "item(2, 2, 0, 9, 1) = 1", "rename() = 3", "told(0, 1) = 0", "told(1, 1) = 1");
        script(sentence).rows(
                "add(-1) = 0", "add(0) = 1", "add(0) = 2", "method(1, 9, 1) = 0", "method(2, 8, 1) = 1",
                "method(0, 5, 0) = 2", "item(2, 2, 0, 9, 0) = 1", "rename() = 3", "told(0, 1) = 0", "told(1, 1) = 0");
    }

    /** The FAMILY of NAME 9 has METHODS 0 and 3, so it comes before the others. */
    private static void lowestMethodsFirst() {
        script("Promise 8, Terms: FAMILIES in the order of their lowest METHODS").rows(
                "add(-1) = 0", "add(0) = 1", "method(1, 9, 0) = 0", "method(0, 1, 0) = 1", "method(0, 0, 0) = 2",
                "method(0, 9, 0) = 3", "rename() = 3", "told(0, 1) = 0", "told(1, 1) = 1", "told(2, 1) = 2",
                "told(3, 1) = 0");
    }

    private static void enoughNames() {
        Script s = script("Promise 8, Terms: (there are enough)");
        s.row("add(-1) = 0");
        for (int m = 0; m < 24; m++) {
            s.row("method(0, %d, 2) = %d", 25 - m, m);
        }
        s.row("rename() = 24");
        for (int m = 0; m < 24; m++) {
            s.row("told(%d, 1) = %d", m, m);
            s.row("trace(0, %d, 2) = %d", m, m);
        }
        s.rows("trace(0, 24, 2) = NSEE", "trace(0, 25, 2) = NSEE", "trace(0, 26, 2) = NSEE");
    }

    /** 23 KEPT ones have NAMES 0 to 22, and one clashes with them all. */
    private static void enoughNamesBesideKeptOnes() {
        Script s = script("Promise 8, Terms: (there are enough)");
        chainOfClasses(s);
        s.row("method(7, 25, 0) = 0");
        for (int m = 1; m < 24; m++) {
            s.row("method(%d, %d, 0) = %d", m % 8, 23 - m, m);
            s.row("keep(%d, true)", m);
        }
        s.rows("rename() = 24", "told(0, 1) = 23", "told(1, 1) = 22", "told(23, 1) = 0");
    }

    private static void allKept() {
        Script s = script("Promise 8, Terms: KEPT ones their old one");
        s.row("add(-1) = 0");
        for (int m = 0; m < 24; m++) {
            s.row("method(0, %d, 0) = %d", 25 - m, m);
            s.row("keep(%d, true)", m);
        }
        s.row("rename() = 24");
        for (int m = 0; m < 24; m++) {
            s.row("told(%d, 1) = %d", m, 25 - m);
        }
    }

    /** NAMES of KEPT ones are taken from the beginning, though they come last. */
    private static void keptNamesFurtherBack() {
        script("Promise 8, Terms: the least NAME that no FAMILY that it CLASHES with has, KEPT or already given").rows(
                "add(-1) = 0", "method(0, 20, 0) = 0", "method(0, 21, 0) = 1", "method(0, 22, 0) = 2",
                "method(0, 0, 0) = 3", "method(0, 2, 0) = 4", "keep(3, true)", "keep(4, true)", "rename() = 5",
                "told(0, 1) = 1", "told(1, 1) = 3", "told(2, 1) = 4", "told(3, 1) = 0", "told(4, 1) = 2");
    }

    private static void namesOfFarFamiliesAreFree() {
        script("Promise 8, Terms: the least NAME that no FAMILY that it CLASHES with has").rows(
                "add(-1) = 0", "add(0) = 1", "add(0) = 2", "method(1, 0, 0) = 0", "method(1, 1, 0) = 1",
                "method(2, 7, 0) = 2", "method(0, 8, 0) = 3", "keep(0, true)", "keep(1, true)", "rename() = 4",
                "told(2, 1) = 0", "told(3, 1) = 2");
    }

    private static void callsOfNone() {
        script("Promise 8, Terms: if there is none: 26").rows(
                "add(-1) = 0", "add(0) = 1", "method(0, 9, 0) = 0", "method(1, 8, 0) = 1", "item(0, 1, 0, 8, 0) = 1",
                "item(0, 1, 1, 9, 1) = 2", "item(0, 1, 1, 25, 2) = 3", "item(0, 1, 1, 8, 0) = 4", "rename() = 2",
                "inside(0, 0, 2) = 26", "inside(0, 1, 2) = 26", "inside(0, 2, 2) = 26", "inside(0, 3, 2) = 1",
                "inside(0, 0, 1) = 0", "inside(0, 1, 1) = 1", "inside(0, 1, 3) = 1");
    }

    /** FINDING goes from CLASS 6 up to CLASS 0, past CLASS 3 whose METHOD clashes with that one. */
    private static void callsOfWhatIsAbove() {
        Script s = script("Promise 8, Terms: In CALLS the NAME becomes that of the FAMILY of what FINDING gave");
        chainOfClasses(s);
        s.rows("method(7, 1, 0) = 0", "item(0, 1, 6, 9, 0) = 1", "method(3, 8, 0) = 1", "method(0, 9, 0) = 2",
                "item(2, 0, 4, 0, 0) = 1", "run(7, 1, 0) = 4", "rename() = 3", "inside(0, 0, 2) = 2",
                "run(7, 0, 0) = 4");
    }

    /** A SELF follows its STAND-IN's FAMILY also where nothing is found for the METHOD's own CLASS. */
    private static void selfOfNone() {
        script("Promise 8, Terms: in SELF ITEMS that of the STAND-IN's FAMILY; if there is none: 26").rows(
                "add(-1) = 0", "add(0) = 1", "add(-1) = 2", "method(0, 5, 0) = 0", "item(0, 2, 0, 9, 0) = 1",
                "item(0, 2, 0, 8, 0) = 2", "method(1, 9, 0) = 1", "method(2, 8, 0) = 2", "rename() = 3",
                "inside(0, 0, 2) = 1", "inside(0, 1, 2) = 26", "inside(0, 0, 1) = -1", "run(0, 0, 0) = NSEE");
    }

    private static void twentySixIsNeverFound() {
        script("Promise 8, Terms: 26, which is never found").rows(
                "add(-1) = 0", "method(0, 0, 0) = 0", "item(0, 1, 0, 9, 0) = 1", "method(0, 1, 0) = 1",
                "item(1, 2, 0, 9, 0) = 1", "rename() = 2", "run(0, 0, 0) = NSEE", "run(0, 1, 0) = NSEE",
                "trace(0, 26, 0) = NSEE", "run(0, 26, 0) = IAE", "method(0, 26, 0) = IAE",
                "item(0, 1, 0, 26, 0) = IAE", "item(0, 2, 0, 26, 0) = IAE", "keep(0, true)", "keep(1, true)",
                "count(2) = 2", "shrink() = 0");
    }

    /** A METHOD that comes later with the ITEMS' first NAME is none of theirs. */
    private static void twentySixStays() {
        script("Promise 8, Terms: 26, which is never found").rows(
                "add(-1) = 0", "method(0, 0, 0) = 0", "item(0, 1, 0, 9, 0) = 1", "item(0, 2, 0, 9, 0) = 2",
                "keep(0, true)", "rename() = 1", "method(0, 9, 0) = 1", "run(0, 0, 0) = NSEE", "count(2) = 1",
                "rename() = 2", "inside(0, 0, 2) = 26", "inside(0, 1, 2) = 26", "told(1, 1) = 1", "shrink() = 1",
                "inside(0, 0, 2) = 26", "inside(0, 1, 2) = 26");
    }

    /** Entries with an OUTCOME, with 16 and 17 within one another, and with one that finds none. */
    private static void keptEntriesDoWhatTheyDid() {
        Script s = script("Promise 8, Terms: Then RUNNING what is KEPT gives what it gave.");
        s.row("add(-1) = 0");
        for (int n = 0; n < 17; n++) {
            s.row("method(0, %d, 0) = %d", 25 - n, n);
        }
        for (int n = 0; n < 16; n++) {
            s.row("item(%d, %d, 0, %d, 0) = 1", n, 1 + n % 2, 24 - n);
        }
        s.rows("item(16, 0, 33, 0, 0) = 1", "method(0, 8, 0) = 17", "item(17, 2, 0, 0, 0) = 1", "keep(0, true)",
                "keep(1, true)", "keep(15, true)", "keep(17, true)");
        String[] due = {"run(0, 25, 0) = ISE", "run(0, 24, 0) = 33", "run(0, 10, 0) = 33", "run(0, 8, 0) = NSEE"};
        s.rows(due).rows("rename() = 18").rows(due).rows("shrink() = 0").rows(due).rows("rename() = 18").rows(due);
    }

    /** RENAMING a second time finds nothing shorter where nothing has come or gone. */
    private static void againAndAgain() {
        script("Promise 8, Terms: the least NAME that no FAMILY that it CLASHES with has").rows(
                "add(-1) = 0", "method(0, 4, 0) = 0", "method(0, 3, 0) = 1", "method(0, 2, 0) = 2", "rename() = 3",
                "told(0, 1) = 0", "told(1, 1) = 1", "told(2, 1) = 2", "rename() = 3", "told(0, 1) = 0",
                "told(1, 1) = 1", "told(2, 1) = 2", "keep(2, true)", "shrink() = 2", "rename() = 1",
                "told(0, 1) = 2", "keep(0, false)", "rename() = 1", "told(0, 1) = 0", "told(0, 6) = 2");
    }

    private static void traceAtItsEdges() {
        script("Promise 11: with the NAME (0 .. 26) and ARITY now").rows(
                "add(-1) = 0", "method(0, 25, 0) = 0", "method(0, 25, 2) = 1", "method(0, 0, 0) = 2",
                "method(0, 0, 2) = 3", "trace(0, 25, 0) = 0", "trace(0, 25, 2) = 1", "trace(0, 0, 0) = 2",
                "trace(0, 0, 2) = 3", "trace(0, 26, 0) = NSEE", "trace(0, 26, 2) = NSEE", "trace(0, 27, 0) = IAE",
                "trace(0, -1, 0) = IAE");
    }

    private static void traceOfNone() {
        script("Promise 11: None: NoSuchElementException.").rows(
                "add(-1) = 0", "trace(0, 0, 0) = NSEE", "method(0, 0, 0) = 0", "trace(0, 0, 0) = 0",
                "trace(0, 0, 1) = NSEE", "trace(0, 1, 0) = NSEE", "shrink() = 1", "trace(0, 0, 0) = IAE",
                "add(-1) = 0", "trace(0, 0, 0) = NSEE");
    }

    private static void traceOfItsOwnAlone() {
        script("Promise 11: the METHOD that the CLASS has itself").rows(
                "add(-1) = 0", "add(0) = 1", "add(1) = 2", "method(1, 5, 0) = 0", "trace(1, 5, 0) = 0",
                "trace(0, 5, 0) = NSEE", "trace(2, 5, 0) = NSEE", "method(2, 5, 0) = 1", "trace(2, 5, 0) = 1");
    }

    private static void traceOfTheNamesNow() {
        script("Promise 11: The number at the beginning of the METHOD").rows(
                "add(-1) = 0", "method(0, 5, 0) = 0", "method(0, 1, 0) = 1", "method(0, 0, 0) = 2", "keep(2, true)",
                "keep(1, true)", "shrink() = 1", "keep(0, false)", "keep(1, false)", "rename() = 2",
                "trace(0, 0, 0) = 1", "trace(0, 1, 0) = 2", "method(0, 5, 0) = 2", "trace(0, 5, 0) = 2");
    }

    private static void traceOutOfRange() {
        Script s = script("Promise 11, Terms: a number out of range, a CLASS or METHOD that isn't there");
        s.rows("add(-1) = 0", "method(0, 0, 0) = 0");
        for (int of : new int[] {-1, 1, 8, LEAST, MOST}) {
            s.row("trace(%d, 0, 0) = IAE", of);
        }
        for (int name : new int[] {-1, 27, LEAST, MOST}) {
            s.row("trace(0, %d, 0) = IAE", name);
        }
        for (int arity : new int[] {-1, 3, LEAST, MOST}) {
            s.row("trace(0, 0, %d) = IAE", arity);
        }
    }

    private static void traceBadComesFirst() {
        script("Promise 11, Terms: it comes first").rows(
                "add(-1) = 0", "trace(0, 26, 2) = NSEE", "trace(1, 26, 2) = IAE", "trace(0, 27, 2) = IAE",
                "trace(0, 26, 3) = IAE", "trace(0, 26, -1) = IAE");
    }

    private static Script script(String sentence) {
        return new Script(checks, sentence);
    }

    private static void chainOfClasses(Script s) {
        for (int c = 0; c < 8; c++) {
            s.row("add(%d) = %d", c - 1, c);
        }
    }
}

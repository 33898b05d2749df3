/**
 * The document once more from its first line: the sentences that no other test holds by itself. The
 * text at the beginning of each test says the promise and the sentence.
 */
public final class DocumentTest {
    private static final Checks checks = new Checks();

    public static void main(String[] args) {
        whatItIs();
        runAllTheTime();
        itemsNameWhatComesLater();
        inOrderAndForThatClass();
        everyItemOfALiveMethod();
        standInsJoinStandIns();
        standInsOfWhatIsNotLive();
        namesInCallsAndSelfAreOfDifferentFamilies();
        namesAtTheBeginningOfLateMethods();
        answersTheNumberOfAClass();
        answersTheNumberOfAMethod();
        aNewLastItem();
        answersTheOutcome();
        shrinkingLeavesTheRestAlone();
        renamingLeavesTheRestAlone();
        itemsOfTheMethod();
        askingChangesNothing();
        keepingChangesNothingElse();
        objectsDoNotMix();
        checks.finish();
    }

    /** CLASS 0 and METHODS 0 and 4 are what the entry, METHOD 3, can't come to. */
    private static void whatItIs() {
        String sentence = "What it is: what no entry can come to is taken away, what is left gets the shortest names "
                + "that do no harm, classes are numbered anew; and what a name was at first can be found again.";
        script(sentence).rows(
                "add(-1) = 0", "add(-1) = 1", "add(1) = 2", "add(-1) = 3", "add(3) = 4",
                "method(0, 25, 0) = 0", "method(2, 24, 0) = 1", "method(1, 23, 1) = 2", "method(4, 22, 2) = 3",
                "method(3, 21, 2) = 4", "item(1, 2, 0, 23, 1) = 1", "item(2, 0, 5, 0, 0) = 1",
                "item(3, 1, 2, 24, 0) = 1", "item(3, 0, 2, 0, 0) = 2", "keep(3, true)", "run(4, 22, 2) = 157",
                "shrink() = 2", "count(0) = 4", "count(1) = 3", "count(10) = -1", "count(11) = 0", "count(12) = -1",
                "count(13) = 2", "run(3, 22, 2) = 157",
                "rename() = 3", "told(0, 1) = 0", "told(1, 1) = 0", "told(2, 1) = 22", "run(3, 22, 2) = 157",
                "trace(1, 0, 0) = 1", "told(0, 5) = 2", "told(0, 6) = 24", "trace(0, 0, 1) = 2", "told(1, 5) = 1",
                "told(1, 6) = 23", "trace(3, 22, 2) = 3", "told(2, 5) = 4", "told(2, 6) = 22");
    }

    /** Behind every call that changes something. */
    private static void runAllTheTime() {
        script("Promise 6, Terms: Programs can be run all the time").rows(
                "add(-1) = 0", "run(0, 5, 0) = NSEE", "method(0, 5, 0) = 0", "run(0, 5, 0) = 0",
                "item(0, 0, 3, 0, 0) = 1", "run(0, 5, 0) = 3", "item(0, 2, 0, 6, 0) = 2", "run(0, 5, 0) = NSEE",
                "add(0) = 1", "run(1, 5, 0) = NSEE", "method(1, 6, 0) = 1", "run(1, 5, 0) = 3", "run(0, 5, 0) = NSEE",
                "item(1, 0, 4, 0, 0) = 1", "run(1, 5, 0) = 97", "method(1, 7, 0) = 2", "item(2, 1, 1, 5, 0) = 1",
                "run(1, 7, 0) = 97", "keep(2, true)", "run(1, 7, 0) = 97", "shrink() = 0", "run(1, 7, 0) = 97",
                "rename() = 3", "run(1, 7, 0) = 97", "run(1, 0, 0) = 97", "keep(2, false)", "rename() = 3",
                "run(1, 2, 0) = 97", "shrink() = 3", "run(0, 0, 0) = IAE");
    }

    private static void itemsNameWhatComesLater() {
        script("Promise 4, Terms: CALL (CLASS, NAME, ARITY), or SELF (NAME, ARITY)").rows(
                "add(-1) = 0", "method(0, 0, 0) = 0", "item(0, 1, 0, 1, 2) = 1", "item(0, 2, 0, 2, 1) = 2",
                "run(0, 0, 0) = NSEE", "keep(0, true)", "count(2) = 1", "method(0, 1, 2) = 1",
                "item(1, 0, 3, 0, 0) = 1", "count(2) = 2", "run(0, 0, 0) = NSEE", "method(0, 2, 1) = 2",
                "item(2, 0, 4, 0, 0) = 1", "count(2) = 3", "run(0, 0, 0) = 97", "inside(0, 0, 0) = 1",
                "inside(0, 0, 1) = 0", "inside(0, 0, 2) = 1", "inside(0, 0, 3) = 2", "inside(0, 1, 0) = 2",
                "inside(0, 1, 2) = 2", "inside(0, 1, 3) = 1");
    }

    /** METHOD 0, found for CLASS 1, says 1, what its SELF says for CLASS 1, then 3. */
    private static void inOrderAndForThatClass() {
        script("Promise 6, Terms: the METHOD that FINDING gives does its ITEMS in order, for that CLASS").rows(
                "add(-1) = 0", "add(0) = 1", "method(0, 0, 0) = 0", "item(0, 0, 1, 0, 0) = 1",
                "item(0, 2, 0, 1, 0) = 2", "item(0, 0, 3, 0, 0) = 3", "method(0, 1, 0) = 1",
                "item(1, 0, 20, 0, 0) = 1", "method(1, 1, 0) = 2", "item(2, 0, 2, 0, 0) = 1",
                "run(1, 0, 0) = 1026", "run(0, 0, 0) = 1584");
    }

    /** SAY adds nothing, and neither does an ITEM of a METHOD that isn't LIVE. */
    private static void everyItemOfALiveMethod() {
        script("Promise 7, Terms: For each ITEM of a LIVE METHOD").rows(
                "add(-1) = 0", "add(-1) = 1", "add(-1) = 2", "method(0, 0, 0) = 0", "item(0, 0, 1, 1, 1) = 1",
                "item(0, 1, 0, 1, 0) = 2", "item(0, 0, 1, 1, 1) = 3", "item(0, 2, 0, 2, 0) = 4",
                "item(0, 1, 1, 0, 0) = 5", "method(0, 1, 0) = 1", "method(0, 2, 0) = 2", "method(1, 0, 0) = 3",
                "method(1, 1, 1) = 4", "item(4, 1, 2, 0, 0) = 1", "method(2, 0, 0) = 5", "keep(0, true)",
                "count(2) = 4", "count(3) = 2", "shrink() = 2", "count(0) = 2");
    }

    /** CLASSES 1 and 2 are below 0. The STAND-IN in CLASS 2 comes to CLASS 1's METHOD by the one in CLASS 0. */
    private static void standInsJoinStandIns() {
        String sentence = "Promise 8, Terms: Two METHODS (STAND-INS, too) with the same NAME and ARITY in RELATED "
                + "CLASSES are of one FAMILY, and so are those that are so by others.";
        String[] without = {
            "add(-1) = 0", "add(0) = 1", "add(0) = 2", "method(1, 9, 0) = 0", "method(0, 5, 1) = 1",
            "method(2, 6, 1) = 2", "method(2, 7, 0) = 3", "item(2, 2, 0, 9, 0) = 1"};
        script(sentence).rows(without).rows(
                "rename() = 4", "told(0, 1) = 0", "told(1, 1) = 0", "told(2, 1) = 1", "told(3, 1) = 0",
                "inside(2, 0, 2) = 26");
        script(sentence).rows(without).rows(
                "item(1, 2, 0, 9, 0) = 1", "rename() = 4", "told(0, 1) = 0", "told(1, 1) = 0", "told(2, 1) = 1",
                "told(3, 1) = 1", "inside(1, 0, 2) = 0", "inside(2, 0, 2) = 0");
    }

    /** METHOD 2 isn't LIVE, but while it is there its SELF joins METHODS 0 and 1. */
    private static void standInsOfWhatIsNotLive() {
        script("Promise 8, Terms: FAMILIES: for these, each SELF ITEM stands for one more METHOD").rows(
                "add(-1) = 0", "add(0) = 1", "add(0) = 2", "method(1, 9, 0) = 0", "method(2, 9, 0) = 1",
                "method(0, 5, 0) = 2", "item(2, 2, 0, 9, 0) = 1", "method(2, 3, 2) = 3", "item(3, 1, 2, 9, 0) = 1",
                "keep(0, true)", "keep(3, true)", "rename() = 3", "told(0, 1) = 9", "told(1, 1) = 9",
                "told(2, 1) = 0", "told(3, 1) = 3", "inside(3, 0, 2) = 9", "shrink() = 1", "rename() = 3",
                "told(0, 1) = 9", "told(1, 1) = 0", "told(2, 1) = 3", "inside(2, 0, 2) = 0");
    }

    /** Alike in NAME and ARITY, a CALL of CLASS 1 and a SELF in CLASS 0 mean METHODS of two FAMILIES. */
    private static void namesInCallsAndSelfAreOfDifferentFamilies() {
        String sentence = "Promise 8, Terms: In CALLS the NAME becomes that of the FAMILY of what FINDING gave, in SELF "
                + "ITEMS that of the STAND-IN's FAMILY";
        script(sentence).rows(
                "add(-1) = 0", "add(-1) = 1", "method(0, 8, 0) = 0", "item(0, 1, 1, 9, 0) = 1",
                "item(0, 2, 0, 9, 0) = 2", "item(0, 1, 0, 9, 0) = 3", "method(0, 9, 0) = 1", "method(1, 9, 0) = 2",
                "item(1, 0, 1, 0, 0) = 1", "item(2, 0, 2, 0, 0) = 1", "run(0, 8, 0) = 1954", "rename() = 3",
                "inside(0, 0, 2) = 0", "inside(0, 1, 2) = 1", "inside(0, 2, 2) = 1", "run(0, 0, 0) = 1954");
    }

    /** What comes to be behind RENAMING begins with its NAME of that time. */
    private static void namesAtTheBeginningOfLateMethods() {
        String sentence = "Promise 9, Terms: Each METHOD remembers the numbers of its CLASS and its own, and the NAME, "
                + "that it had when it came to be";
        script(sentence).rows(
                "add(-1) = 0", "method(0, 9, 0) = 0", "rename() = 1", "method(0, 9, 0) = 1", "told(0, 6) = 9",
                "told(1, 6) = 9", "rename() = 2", "told(0, 1) = 0", "told(1, 1) = 1", "told(0, 6) = 9",
                "told(1, 6) = 9", "keep(1, true)", "shrink() = 1", "told(0, 7) = 1", "method(0, 0, 0) = 1",
                "told(1, 6) = 0", "told(1, 7) = 1", "trace(0, 1, 0) = 1", "trace(0, 0, 0) = 1");
    }

    private static void answersTheNumberOfAClass() {
        script("Promise 2: Answers its number.").rows(
                "add(-1) = 0", "add(-1) = 1", "add(1) = 2", "method(2, 0, 0) = 0", "keep(0, true)", "shrink() = 0",
                "add(1) = 2", "count(12) = 1", "add(-1) = 3", "count(13) = -1", "count(0) = 4");
    }

    private static void answersTheNumberOfAMethod() {
        script("Promise 3: Answers its number.").rows(
                "add(-1) = 0", "add(-1) = 1", "method(1, 4, 0) = 0", "method(0, 5, 1) = 1", "method(1, 6, 2) = 2",
                "keep(2, true)", "shrink() = 2", "method(0, 7, 1) = 1", "told(1, 0) = 0", "told(1, 1) = 7",
                "told(1, 2) = 1", "told(0, 1) = 6", "method(0, 4, 0) = 2", "count(1) = 3");
    }

    /** The new ITEM is the last one of that METHOD alone, also where METHODS have new numbers. */
    private static void aNewLastItem() {
        script("Promise 4: METHOD m gets a new last ITEM: SAY v (kind 0)").rows(
                "add(-1) = 0", "method(0, 0, 0) = 0", "method(0, 1, 0) = 1", "method(0, 2, 0) = 2",
                "item(1, 0, 5, 0, 0) = 1", "item(2, 0, 6, 0, 0) = 1", "item(1, 0, 7, 0, 0) = 2", "inside(1, 0, 1) = 5",
                "inside(1, 1, 1) = 7", "inside(2, 0, 1) = 6", "told(0, 3) = 0", "told(2, 3) = 1", "keep(1, true)",
                "keep(2, true)", "shrink() = 1", "item(1, 0, 8, 0, 0) = 2", "told(0, 3) = 2", "inside(1, 1, 1) = 8",
                "run(0, 2, 0) = 194", "run(0, 1, 0) = 162");
    }

    private static void answersTheOutcome() {
        script("Promise 6: Answers the OUTCOME.").rows(
                "add(-1) = 0", "method(0, 0, 0) = 0", "item(0, 0, 1, 0, 0) = 1", "item(0, 0, -31, 0, 0) = 2",
                "run(0, 0, 0) = 0", "item(0, 0, -3, 0, 0) = 3", "run(0, 0, 0) = -3", "item(0, 0, 100, 0, 0) = 4",
                "run(0, 0, 0) = 7");
    }

    private static void shrinkingLeavesTheRestAlone() {
        script("Not promised: Nothing is promised beyond the answers and state changes described above").rows(
                "add(-1) = 0", "add(-1) = 1", "method(0, 4, 0) = 0", "method(1, 20, 1) = 1", "item(1, 2, 0, 19, 2) = 1",
                "item(1, 0, 1, 0, 0) = 2", "item(1, 1, 1, 18, 0) = 3", "method(1, 19, 2) = 2", "method(1, 18, 0) = 3",
                "keep(1, true)", "shrink() = 1", "told(0, 1) = 20", "told(0, 2) = 1", "told(0, 3) = 3",
                "told(0, 4) = 1", "told(1, 1) = 19", "told(1, 4) = 0", "told(2, 1) = 18", "inside(0, 0, 2) = 19",
                "inside(0, 0, 3) = 2", "inside(0, 1, 1) = 1", "inside(0, 2, 2) = 18").asks("shrink() = 0");
    }

    private static void renamingLeavesTheRestAlone() {
        script("Not promised: Nothing is promised beyond the answers and state changes described above").rows(
                "add(-1) = 0", "add(0) = 1", "method(0, 4, 0) = 0", "method(1, 20, 1) = 1", "item(1, 2, 0, 4, 0) = 1",
                "item(1, 0, 20, 20, 1) = 2", "item(1, 1, 1, 20, 1) = 3", "rename() = 2", "count(0) = 2",
                "count(1) = 2", "count(2) = 0", "count(4) = 0", "count(11) = 0", "told(1, 0) = 1", "told(1, 1) = 0",
                "told(1, 2) = 1", "told(1, 3) = 3", "told(1, 4) = 0", "told(1, 7) = 1", "inside(1, 0, 0) = 2",
                "inside(1, 0, 3) = 0", "inside(1, 1, 0) = 0", "inside(1, 1, 1) = 20", "inside(1, 1, 2) = -1",
                "inside(1, 2, 1) = 1", "inside(1, 2, 3) = 1").asks("rename() = 2");
    }

    private static void itemsOfTheMethod() {
        script("Promise 10: Of ITEM i of METHOD m").rows(
                "add(-1) = 0", "add(-1) = 1", "method(0, 0, 0) = 0", "method(0, 1, 0) = 1", "item(0, 0, 9, 0, 0) = 1",
                "item(1, 1, 1, 8, 1) = 1", "item(1, 2, 1, 7, 2) = 2", "inside(0, 0, 0) = 0", "inside(0, 0, 1) = 9",
                "inside(0, 1, 0) = NSEE", "inside(1, 0, 0) = 1", "inside(1, 0, 1) = 1", "inside(1, 0, 2) = 8",
                "inside(1, 0, 3) = 1", "inside(1, 1, 0) = 2", "inside(1, 1, 1) = -1", "inside(1, 1, 2) = 7",
                "inside(1, 1, 3) = 2", "inside(1, 2, 0) = NSEE");
    }

    private static void askingChangesNothing() {
        script("Not promised: Nothing is promised beyond the answers and state changes described above").rows(
                "add(-1) = 0", "add(0) = 1", "method(0, 4, 0) = 0", "item(0, 2, 0, 5, 0) = 1", "method(1, 5, 0) = 1",
                "item(1, 0, 6, 0, 0) = 1", "method(1, 7, 2) = 2", "item(2, 1, 1, 4, 0) = 1", "keep(2, true)").asks(
                "run(1, 7, 2) = 6", "run(0, 4, 0) = NSEE", "told(0, 1) = 4", "told(2, 7) = 2", "inside(0, 0, 2) = 5",
                "trace(1, 5, 0) = 1", "count(0) = 2", "count(1) = 3", "count(2) = 3", "count(3) = 1", "count(4) = 0",
                "count(11) = 0", "count(12) = -2", "run(1, 7, 2) = 6");
    }

    private static void keepingChangesNothingElse() {
        script("Promise 5: METHOD m is KEPT, or not.").rows(
                "add(-1) = 0", "method(0, 9, 0) = 0", "method(0, 8, 0) = 1", "item(1, 0, 3, 0, 0) = 1").asks(
                "keep(1, false)").rows("keep(1, true)").asks("keep(1, true)").rows(
                "told(0, 4) = 0", "told(1, 0) = 0", "told(1, 1) = 8", "told(1, 2) = 0", "told(1, 3) = 1",
                "told(1, 4) = 1", "told(1, 7) = 1", "count(1) = 2");
    }

    /** The same calls on two objects in turn, with other calls on a third between them. */
    private static void objectsDoNotMix() {
        Script one = script("LANGUAGE.md, rule 13: the same calls always give the same answers");
        Script two = script("LANGUAGE.md, rule 13: the same calls always give the same answers");
        Script other = script("LANGUAGE.md, rule 13: the same calls always give the same answers");
        other.rows("add(-1) = 0", "method(0, 0, 0) = 0", "item(0, 0, 1, 0, 0) = 1", "item(0, 2, 0, 0, 0) = 2",
                "method(0, 25, 0) = 1", "keep(1, true)");
        String[] rows = {
            "add(-1) = 0", "add(0) = 1", "method(0, 9, 1) = 0", "method(1, 9, 1) = 1", "method(1, 8, 1) = 2",
            "item(2, 2, 0, 9, 1) = 1", "item(1, 0, 5, 0, 0) = 1", "keep(2, true)", "run(1, 8, 1) = 5",
            "count(2) = 2", "count(3) = 1", "shrink() = 1", "count(4) = 1", "rename() = 2", "told(0, 1) = 0",
            "told(1, 1) = 8", "run(1, 8, 1) = 5", "trace(1, 0, 1) = 1"};
        for (String row : rows) {
            one.rows(row);
            other.rows("run(0, 0, 0) = ISE", "count(2) = 1", "rename() = 2");
            two.rows(row);
        }
    }

    private static Script script(String sentence) {
        return new Script(checks, sentence);
    }
}

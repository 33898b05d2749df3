/** Promises 8 and 11: rename and trace. */
public final class RenamingTest {
    private static final Class<java.util.NoSuchElementException> NO_SUCH = java.util.NoSuchElementException.class;

    private static final Checks checks = new Checks();

    public static void main(String[] args) {
        eachClassByItself();
        aritiesDoNotClash();
        relatedClassesClash();
        siblingsDoNotClash();
        overridingIsOneFamily();
        siblingsJoinThroughTheirParent();
        siblingsJoinThroughAStandIn();
        onlySelfOfThatArityStandsIn();
        standInsClash();
        standInsAloneAreNone();
        oneKeptKeepsItsFamily();
        keptNamesAreNotGiven();
        oldNamesOfOthersAreFree();
        callsFollowWhatTheyFind();
        callsOfNoneBecome26();
        callsThatFindAboveGoOn();
        traceTellsBeginnings();
        keptEntriesDoWhatTheyDid();
        checks.finish();
    }

    private static void eachClassByItself() {
        CodeShrinker x = program(-1, -1);
        methods(x, "0/9/0 0/4/0 1/9/0");
        renamed(x, 3, 0, 1, 0);
        renamed(x, 3, 0, 1, 0);
    }

    private static void aritiesDoNotClash() {
        CodeShrinker x = program(-1);
        methods(x, "0/9/0 0/9/1 0/9/2 0/8/1");
        renamed(x, 4, 0, 0, 0, 1);
    }

    private static void relatedClassesClash() {
        CodeShrinker x = program(-1, 0, 1);
        methods(x, "0/9/0 1/8/0 2/7/0");
        renamed(x, 3, 0, 1, 2);
    }

    private static void siblingsDoNotClash() {
        CodeShrinker x = program(-1, 0, 0);
        methods(x, "1/9/0 2/8/0 0/7/0");
        renamed(x, 3, 0, 0, 1);
    }

    private static void overridingIsOneFamily() {
        CodeShrinker x = program(-1, 0, 1);
        methods(x, "2/9/0 1/8/0 0/9/0");
        renamed(x, 2, 0, 1, 0);
    }

    private static void siblingsJoinThroughTheirParent() {
        CodeShrinker x = program(-1, 0, 0);
        methods(x, "1/9/0 2/8/0 2/9/0 0/9/0");
        renamed(x, 2, 0, 1, 0, 0);
    }

    /** METHOD 0's SELF (9, 1) stands in CLASS 0, so the two below it are one FAMILY. */
    private static void siblingsJoinThroughAStandIn() {
        CodeShrinker x = program(-1, 0, 0);
        methods(x, "0/5/0 1/9/1 2/8/1 2/9/1");
        x.item(0, 2, 0, 9, 1);
        renamed(x, 3, 0, 0, 1, 0);
        checks.due("the SELF follows", 0, () -> x.inside(0, 0, 2));
        CodeShrinker y = program(-1, 0, 0);
        methods(y, "0/5/0 1/9/1 2/8/1 2/9/1");
        renamed(y, 4, 0, 0, 0, 1);
    }

    private static void onlySelfOfThatArityStandsIn() {
        CodeShrinker x = program(-1, 0, 0);
        methods(x, "0/5/0 1/9/1 2/8/1 2/9/1");
        x.item(0, 1, 0, 9, 1);
        x.item(0, 2, 0, 9, 2);
        renamed(x, 4, 0, 0, 0, 1);
    }

    /** CLASS 2's METHOD is below the stand-in's CLASS, so it clashes with what the stand-in joins. */
    private static void standInsClash() {
        CodeShrinker x = program(-1, 0, 0);
        methods(x, "0/5/0 1/9/1 2/8/1");
        x.item(0, 2, 0, 9, 1);
        renamed(x, 3, 0, 0, 1);
        CodeShrinker y = program(-1, 0, 0);
        methods(y, "0/5/0 1/9/1 2/8/1");
        renamed(y, 3, 0, 0, 0);
    }

    private static void standInsAloneAreNone() {
        CodeShrinker x = program(-1, -1);
        methods(x, "0/5/0 1/9/1 0/3/1");
        x.item(0, 2, 0, 9, 1);
        x.item(0, 2, 0, 3, 2);
        renamed(x, 3, 0, 0, 0);
        checks.due("SELF of none", 26, () -> x.inside(0, 0, 2));
        checks.due("SELF of another ARITY", 26, () -> x.inside(0, 1, 2));
        checks.due("its ARITY stays", 2, () -> x.inside(0, 1, 3));
        checks.dueThrow("never found", NO_SUCH, () -> x.run(0, 0, 0));
    }

    private static void oneKeptKeepsItsFamily() {
        CodeShrinker x = program(-1, 0, 0);
        methods(x, "0/9/0 1/9/0 2/9/0 0/8/0");
        x.keep(2, true);
        renamed(x, 2, 9, 9, 9, 0);
        x.keep(2, false);
        renamed(x, 2, 0, 0, 0, 1);
    }

    private static void keptNamesAreNotGiven() {
        CodeShrinker x = program(-1, 0, -1);
        methods(x, "0/9/0 0/8/0 1/0/0 1/2/0 2/7/0 0/6/1");
        x.keep(2, true);
        x.keep(3, true);
        renamed(x, 6, 1, 3, 0, 2, 0, 0);
    }

    /** The first takes NAME 0 though the second, which clashes, still has it. */
    private static void oldNamesOfOthersAreFree() {
        CodeShrinker x = program(-1);
        methods(x, "0/1/0 0/0/0");
        x.item(0, 1, 0, 0, 0);
        x.item(0, 2, 0, 1, 0);
        x.item(1, 0, 5, 0, 0);
        renamed(x, 2, 0, 1);
        checks.due("CALL of what was 0", 1, () -> x.inside(0, 0, 2));
        checks.due("SELF of what was 1", 0, () -> x.inside(0, 1, 2));
        checks.due("what was 0 is 1", 5, () -> x.run(0, 1, 0));
    }

    private static void callsFollowWhatTheyFind() {
        CodeShrinker x = program(-1, -1);
        methods(x, "0/9/0 0/8/0 1/8/0 1/7/0 1/9/0");
        x.item(0, 1, 1, 9, 0);
        x.item(0, 1, 0, 9, 0);
        x.item(0, 0, 9, 9, 9);
        renamed(x, 5, 0, 1, 0, 1, 2);
        checks.due("CALL (1, 9, 0)", 2, () -> x.inside(0, 0, 2));
        checks.due("its CLASS stays", 1, () -> x.inside(0, 0, 1));
        checks.due("CALL (0, 9, 0)", 0, () -> x.inside(0, 1, 2));
        checks.due("v stays", 9, () -> x.inside(0, 2, 1));
        checks.due("SAY has no NAME", -1, () -> x.inside(0, 2, 2));
        checks.due("SAY has no ARITY", -1, () -> x.inside(0, 2, 3));
    }

    private static void callsOfNoneBecome26() {
        CodeShrinker x = program(-1, 0);
        methods(x, "0/9/0 1/8/0");
        x.item(0, 1, 0, 8, 0);
        x.item(0, 1, 0, 9, 1);
        renamed(x, 2, 0, 1);
        checks.due("not downwards", 26, () -> x.inside(0, 0, 2));
        checks.due("not of another ARITY", 26, () -> x.inside(0, 1, 2));
        checks.due("its CLASS stays", 0, () -> x.inside(0, 0, 1));
    }

    /** A CALL has no stand-in: CLASS 2's CALL of CLASS 1 finds CLASS 0's, whose FAMILY has one METHOD. */
    private static void callsThatFindAboveGoOn() {
        CodeShrinker x = program(-1, 0, -1);
        methods(x, "2/5/0 1/4/0 0/9/0");
        x.item(0, 1, 1, 9, 0);
        x.item(2, 0, 3, 0, 0);
        checks.due("before", 3, () -> x.run(2, 5, 0));
        renamed(x, 3, 0, 0, 1);
        checks.due("the CALL", 1, () -> x.inside(0, 0, 2));
        checks.due("after", 3, () -> x.run(2, 0, 0));
    }

    private static void traceTellsBeginnings() {
        CodeShrinker x = program(-1, 0);
        methods(x, "0/9/0 0/8/2 1/7/0 1/9/0");
        checks.due("trace(0, 9, 0)", 0, () -> x.trace(0, 9, 0));
        checks.due("trace(1, 9, 0)", 3, () -> x.trace(1, 9, 0));
        checks.dueThrow("an ANCESTOR's is not its own", NO_SUCH, () -> x.trace(1, 8, 2));
        renamed(x, 3, 0, 0, 1, 0);
        checks.due("trace(0, 0, 0)", 0, () -> x.trace(0, 0, 0));
        checks.due("trace(0, 0, 2)", 1, () -> x.trace(0, 0, 2));
        checks.due("trace(1, 1, 0)", 2, () -> x.trace(1, 1, 0));
        checks.due("trace(1, 0, 0)", 3, () -> x.trace(1, 0, 0));
        checks.dueThrow("the old NAME", NO_SUCH, () -> x.trace(0, 9, 0));
        checks.due("NAME at its beginning", 8, () -> x.told(1, 6));
        x.keep(2, true);
        checks.due("three go", 3, x::shrink);
        checks.due("trace after it", 2, () -> x.trace(1, 1, 0));
        checks.due("NAME at its beginning after it", 7, () -> x.told(0, 6));
        x.keep(0, false);
        renamed(x, 1, 0);
        checks.due("trace at the end", 2, () -> x.trace(1, 0, 0));
    }

    private static void keptEntriesDoWhatTheyDid() {
        CodeShrinker x = program(-1, 0, 0);
        methods(x, "0/5/0 1/9/1 2/9/1 2/8/1 0/20/0");
        x.item(0, 2, 0, 9, 1);
        x.item(1, 0, 1, 0, 0);
        x.item(2, 0, 2, 0, 0);
        x.item(3, 0, 3, 0, 0);
        x.item(4, 1, 1, 5, 0);
        x.item(4, 1, 2, 5, 0);
        x.item(4, 1, 2, 8, 1);
        x.keep(4, true);
        int due = (31 + 2) * 31 + 3;
        checks.due("before", due, () -> x.run(0, 20, 0));
        renamed(x, 4, 0, 0, 0, 1, 20);
        checks.due("after", due, () -> x.run(0, 20, 0));
    }

    private static CodeShrinker program(int... parents) {
        CodeShrinker x = new CodeShrinker();
        for (int parent : parents) {
            x.add(parent);
        }
        return x;
    }

    /** One METHOD for each "CLASS/NAME/ARITY". */
    private static void methods(CodeShrinker x, String all) {
        for (String one : all.split(" ")) {
            String[] parts = one.split("/");
            x.method(Integer.parseInt(parts[0]), Integer.parseInt(parts[1]), Integer.parseInt(parts[2]));
        }
    }

    private static void renamed(CodeShrinker x, int families, int... names) {
        String where = Thread.currentThread().getStackTrace()[2].getMethodName();
        checks.due(where + ": rename()", families, x::rename);
        for (int m = 0; m < names.length; m++) {
            int at = m;
            checks.due(where + ": new NAME of METHOD " + at, names[at], () -> x.told(at, 1));
        }
    }
}
